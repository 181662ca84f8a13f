def p_J6_bitCount_0f7a4 (a0 : Int32) : Option (Int32) :=
  k_lt (a0 - ((((a0).toUInt32 >>> ((1 : Int32).toUInt32 &&& Int32.toUInt32 31)).toInt32) &&& 1431655765)) fun y1 =>
  k_lt ((y1 &&& 858993459) + ((((y1).toUInt32 >>> ((2 : Int32).toUInt32 &&& Int32.toUInt32 31)).toInt32) &&& 858993459)) fun y2 =>
  k_lt ((y2 + (((y2).toUInt32 >>> ((4 : Int32).toUInt32 &&& Int32.toUInt32 31)).toInt32)) &&& 252645135) fun y3 =>
  k_lt (y3 + (((y3).toUInt32 >>> ((8 : Int32).toUInt32 &&& Int32.toUInt32 31)).toInt32)) fun y4 =>
  k_lt (y4 + (((y4).toUInt32 >>> ((16 : Int32).toUInt32 &&& Int32.toUInt32 31)).toInt32)) fun y5 =>
  some (y5 &&& 63)
def p_X8_draught (a0 : Int32) : Option (Int32) :=
  some (a0 / 20)
def p_X8_hasBit (a0 : Int32) (a1 : Int32) : Option (Int32) :=
  if ((a0 >>> (a1 &&& 31)) &&& 1) = 0 then
    some 0
  else
    some 1
def p_X8_roundedUp (a0 : Int32) (a1 : Int32) : Option (Int32) :=
  if 0 < a1 then
    k_ck (¬ a1 = 0) (
      some (((a0 + a1) - 1) / a1))
  else
    some 0
def p_X8_within (a0 : Int32) (a1 : Int32) (a2 : Int32) : Option (Int32) :=
  if a0 < a1 then
    some 0
  else
    if a2 < a0 then
      some 0
    else
      some 1
def p_X8_eightBits (a0 : Int64) (a2 : Int32) : Option (Int32) :=
  some (((((a0).toUInt64 >>> ((8 * a2).toInt64.toUInt64 &&& Int64.toUInt64 63)).toInt64).toInt32) &&& 255)
def lb_X8_areTides_2 (a1 : Int64) (a0 : Int32) (x3_12 : Int32) : Option ((Int32) ⊕ ((Int32) ⊕ (Unit))) :=
  if 8 ≤ x3_12 then
    some (.inr (.inr ()))
  else
    k_b1 (p_X8_eightBits a1 x3_12) fun r14 =>
    if a0 ≤ x3_12 then
      if r14 ≤ 0 then
        some (.inl (x3_12 + 1))
      else
        some (.inr (.inl 0))
    else
      if r14 ≤ 60 then
        some (.inl (x3_12 + 1))
      else
        some (.inr (.inl 0))
def p_X8_areTides (a0 : Int32) (a1 : Int64) : Option (Int32) :=
  k_bx0 (k_lp (fun s => lb_X8_areTides_2 a1 a0 s) k_fuel 0) (fun q => some q) (
    some 1)
def p_X8_asNumber (a0 : Int32) : Option (Int32) :=
  if a0 = 0 then
    some 0
  else
    some 1
def p_X5_tideIn (f_h_tide : Nat → Int32) (a1 : Int32) : Option (Int32) :=
  k_ix (if 0 < (if 95 < a1 then 95 else a1) then (if 95 < a1 then 95 else a1) else 0) 96 (
    some (f_h_tide (if 0 < (if 95 < a1 then 95 else a1) then (if 95 < a1 then 95 else a1) else 0).toNatClampNeg))
def p_X5_tideNeeded (f_h_rules : Nat → Int32) (a1 : Int32) : Option (Int32) :=
  k_b1 (p_X8_draught a1) fun r1 =>
  some (r1 + (f_h_rules 0))
def lb_X7_weightOf_4 (v_h_size : Int32) (a1 : Int32) (f_h_weight : Nat → Int32) (x2_12 : Int32) (x3_13 : Int32) : Option ((Int32 × Int32) ⊕ (Int32)) :=
  if v_h_size ≤ x3_13 then
    some (.inr x2_12)
  else
    k_b1 (p_X8_hasBit a1 x3_13) fun r15 =>
    if r15 = 0 then
      some (.inl (x2_12 + 0, x3_13 + 1))
    else
      k_ix x3_13 12 (
        some (.inl (x2_12 + (f_h_weight x3_13.toNatClampNeg), x3_13 + 1)))
def p_X7_weightOf (v_h_size : Int32) (f_h_weight : Nat → Int32) (a1 : Int32) : Option (Int32) :=
  k_b1 (k_lp (fun s => lb_X7_weightOf_4 v_h_size a1 f_h_weight s.1 s.2) k_fuel (0, 0)) fun x2_11 =>
  some x2_11
def lb_X7_mayComeIn_11 (v_h_size : Int32) (a1 : Int32) (f_h_under : Nat → Int32) (v_h_out : Int32) (x3_17 : Int32) : Option ((Int32) ⊕ ((Int32) ⊕ (Unit))) :=
  if v_h_size ≤ x3_17 then
    some (.inr (.inr ()))
  else
    k_b1 (p_X8_hasBit a1 x3_17) fun r19 =>
    if r19 = 0 then
      some (.inl (x3_17 + 1))
    else
      k_ix x3_17 12 (
        if (f_h_under x3_17.toNatClampNeg) < 0 then
          some (.inl (x3_17 + 1))
        else
          k_ix x3_17 12 (
            k_b1 (p_X8_hasBit (v_h_out &&& (a1 ^^^ (-1))) (f_h_under x3_17.toNatClampNeg)) fun r24 =>
            if r24 = 0 then
              some (.inl (x3_17 + 1))
            else
              some (.inr (.inl 0))))
def p_X7_mayComeIn (v_h_out : Int32) (v_h_size : Int32) (f_h_under : Nat → Int32) (a1 : Int32) : Option (Int32) :=
  k_bx0 (k_lp (fun s => lb_X7_mayComeIn_11 v_h_size a1 f_h_under v_h_out s) k_fuel 0) (fun q => some q) (
    some 1)
def lb_X3_bitsOf_4 (v_h_size : Int32) (f_h_state : Nat → Int32) (a1 : Int32) (x2_10 : Int32) (x3_11 : Int32) : Option ((Int32 × Int32) ⊕ (Int32)) :=
  if v_h_size ≤ x3_11 then
    some (.inr x2_10)
  else
    k_ix x3_11 12 (
      if (f_h_state x3_11.toNatClampNeg) = a1 then
        some (.inl (x2_10 ||| (1 <<< (x3_11 &&& 31)), x3_11 + 1))
      else
        some (.inl (x2_10 ||| 0, x3_11 + 1)))
def p_X3_bitsOf (v_h_size : Int32) (f_h_state : Nat → Int32) (a1 : Int32) : Option (Int32) :=
  k_b1 (k_lp (fun s => lb_X3_bitsOf_4 v_h_size f_h_state a1 s.1 s.2) k_fuel (0, 0)) fun x2_9 =>
  some x2_9
def p_X3_copyFrom (v_o1_size : Int32) (f_o1_strake : Nat → Int32) (f_h_strake : Nat → Int32) (f_o1_side : Nat → Int32) (f_h_side : Nat → Int32) (f_o1_hands : Nat → Int32) (f_h_hands : Nat → Int32) (f_o1_hours : Nat → Int32) (f_h_hours : Nat → Int32) (f_o1_pitch : Nat → Int32) (f_h_pitch : Nat → Int32) (f_o1_worth : Nat → Int32) (f_h_worth : Nat → Int32) (f_o1_state : Nat → Int32) (f_h_state : Nat → Int32) (f_o1_done : Nat → Int32) (f_h_done : Nat → Int32) : Option (Int32 × (Nat → Int32) × (Nat → Int32) × (Nat → Int32) × (Nat → Int32) × (Nat → Int32) × (Nat → Int32) × (Nat → Int32) × (Nat → Int32)) :=
  some (v_o1_size, k_cpy 12 f_o1_strake f_h_strake, k_cpy 12 f_o1_side f_h_side, k_cpy 12 f_o1_hands f_h_hands, k_cpy 12 f_o1_hours f_h_hours, k_cpy 12 f_o1_pitch f_h_pitch, k_cpy 12 f_o1_worth f_h_worth, k_cpy 12 f_o1_state f_h_state, k_cpy 12 f_o1_done f_h_done)
def p_X6_copyFrom (v_o1_whole : Int32) (v_o1_size : Int32) (f_o1_mast : Nat → Int32) (f_h_mast : Nat → Int32) (f_o1_parts : Nat → Int32) (f_h_parts : Nat → Int32) (f_o1_strength : Nat → Int32) (f_h_strength : Nat → Int32) : Option (Int32 × Int32 × (Nat → Int32) × (Nat → Int32) × (Nat → Int32)) :=
  some (v_o1_whole, v_o1_size, k_cpy 6 f_o1_mast f_h_mast, k_cpy 6 f_o1_parts f_h_parts, k_cpy 6 f_o1_strength f_h_strength)
def p_X7_copyFrom (v_o1_out : Int32) (v_o1_size : Int32) (f_o1_weight : Nat → Int32) (f_h_weight : Nat → Int32) (f_o1_under : Nat → Int32) (f_h_under : Nat → Int32) : Option (Int32 × Int32 × (Nat → Int32) × (Nat → Int32)) :=
  some (v_o1_out, v_o1_size, k_cpy 12 f_o1_weight f_h_weight, k_cpy 12 f_o1_under f_h_under)
def p_X3_isBare (f_h_strake : Nat → Int32) (f_h_side : Nat → Int32) (a1 : Int32) (a2 : Int32) (a3 : Int32) : Option (Int32) :=
  k_ix a1 12 (
    k_ix a1 12 (
      if (f_h_side a1.toNatClampNeg) = 0 then
        if ((4 * (f_h_strake a1.toNatClampNeg)) + (3 * a3)) ≤ a2 then
          some 0
        else
          some 1
      else
        if ((4 * (f_h_strake a1.toNatClampNeg)) + ((-3) * a3)) ≤ a2 then
          some 0
        else
          some 1))
def p_X5_rainsIn (f_h_rain : Nat → Int32) (a1 : Int32) : Option (Int32) :=
  k_ix (if 0 < (if 95 < a1 then 95 else a1) then (if 95 < a1 then 95 else a1) else 0) 96 (
    k_ck ((f_h_rain (if 0 < (if 95 < a1 then 95 else a1) then (if 95 < a1 then 95 else a1) else 0).toNatClampNeg) = 0 ∨ (f_h_rain (if 0 < (if 95 < a1 then 95 else a1) then (if 95 < a1 then 95 else a1) else 0).toNatClampNeg) = 1) (some (f_h_rain (if 0 < (if 95 < a1 then 95 else a1) then (if 95 < a1 then 95 else a1) else 0).toNatClampNeg)))
def lb_X6_lowestOn_2 (v_h_size : Int32) (v_h_whole : Int32) (f_h_mast : Nat → Int32) (a1 : Int32) (x2_12 : Int32) : Option ((Int32) ⊕ ((Int32) ⊕ (Unit))) :=
  if v_h_size ≤ x2_12 then
    some (.inr (.inr ()))
  else
    k_b1 (p_X8_hasBit v_h_whole x2_12) fun r14 =>
    if r14 = 0 then
      some (.inl (x2_12 + 1))
    else
      k_ix x2_12 6 (
        if (f_h_mast x2_12.toNatClampNeg) = a1 then
          some (.inr (.inl x2_12))
        else
          some (.inl (x2_12 + 1)))
def p_X6_lowestOn (v_h_whole : Int32) (v_h_size : Int32) (f_h_mast : Nat → Int32) (a1 : Int32) : Option (Int32) :=
  k_bx0 (k_lp (fun s => lb_X6_lowestOn_2 v_h_size v_h_whole f_h_mast a1 s) k_fuel 0) (fun q => some q) (
    some (-1))
def lb_X6_onMast_4 (v_h_size : Int32) (v_h_whole : Int32) (f_h_mast : Nat → Int32) (a1 : Int32) (x2_14 : Int32) (x3_15 : Int32) : Option ((Int32 × Int32) ⊕ (Int32)) :=
  if v_h_size ≤ x3_15 then
    some (.inr x2_14)
  else
    k_b1 (p_X8_hasBit v_h_whole x3_15) fun r17 =>
    if r17 = 0 then
      some (.inl (x2_14 + 0, x3_15 + 1))
    else
      k_ix x3_15 6 (
        if (f_h_mast x3_15.toNatClampNeg) = a1 then
          some (.inl (x2_14 + 1, x3_15 + 1))
        else
          some (.inl (x2_14 + 0, x3_15 + 1)))
def p_X6_onMast (v_h_whole : Int32) (v_h_size : Int32) (f_h_mast : Nat → Int32) (a1 : Int32) : Option (Int32) :=
  k_b1 (k_lp (fun s => lb_X6_onMast_4 v_h_size v_h_whole f_h_mast a1 s.1 s.2) k_fuel (0, 0)) fun x2_13 =>
  some x2_13
def p_X6_ropeMay (f_h_strength : Nat → Int32) (a1 : Int32) (a2 : Int32) : Option (Int32) :=
  if a2 = 0 then
    k_ix a1 6 (
      some (f_h_strength a1.toNatClampNeg))
  else
    k_ix a1 6 (
      some (((f_h_strength a1.toNatClampNeg) * 3) / 4))
def p_X6_ropeTakes (f_h_parts : Nat → Int32) (a1 : Int32) (a2 : Int32) : Option (Int32) :=
  k_ix a1 6 (
    k_b1 (p_X8_roundedUp a2 (f_h_parts a1.toNatClampNeg)) fun r2 =>
    some r2)
def lb_X6_ropeMostOver_8 (v_h_size : Int32) (f_h_parts : Nat → Int32) (a1 : Int32) (f_h_strength : Nat → Int32) (a2 : Int32) (v_h_whole : Int32) (x3_18 : Int32) (x4_19 : Int32) (x5_20 : Int32) : Option ((Int32 × Int32 × Int32) ⊕ (Int32)) :=
  if v_h_size ≤ x5_20 then
    some (.inr x4_19)
  else
    k_b1 (p_X6_ropeTakes f_h_parts x5_20 a1) fun r22 =>
    k_b1 (p_X6_ropeMay f_h_strength x5_20 a2) fun r23 =>
    k_b1 (p_X8_hasBit v_h_whole x5_20) fun r24 =>
    if r24 = 0 then
      some (.inl (x3_18, x4_19, x5_20 + 1))
    else
      if (r22 - r23) ≤ x3_18 then
        some (.inl (x3_18, x4_19, x5_20 + 1))
      else
        some (.inl (r22 - r23, x5_20, x5_20 + 1))
def p_X6_ropeMostOver (v_h_whole : Int32) (v_h_size : Int32) (f_h_parts : Nat → Int32) (f_h_strength : Nat → Int32) (a1 : Int32) (a2 : Int32) : Option (Int32) :=
  k_b1 (k_lp (fun s => lb_X6_ropeMostOver_8 v_h_size f_h_parts a1 f_h_strength a2 v_h_whole s.1 s.2.1 s.2.2) k_fuel (0, (-1), 0)) fun x4_17 =>
  some x4_17
def p_X6_share (v_h_whole : Int32) (a1 : Int32) : Option (Int32) :=
  k_b1 (p_J6_bitCount_0f7a4 v_h_whole) fun r1 =>
  k_b1 (p_X8_roundedUp a1 r1) fun r2 =>
  some r2
def p_X3_hoursLacking (f_h_state : Nat → Int32) (f_h_hours : Nat → Int32) (f_h_done : Nat → Int32) (a1 : Int32) : Option (Int32) :=
  k_ix a1 12 (
    if (f_h_state a1.toNatClampNeg) = 0 then
      k_ix a1 12 (
        k_ix a1 12 (
          some ((1 + (f_h_hours a1.toNatClampNeg)) - (f_h_done a1.toNatClampNeg))))
    else
      k_ix a1 12 (
        k_ix a1 12 (
          some ((0 + (f_h_hours a1.toNatClampNeg)) - (f_h_done a1.toNatClampNeg)))))
def p_X3_pitchLacking (f_h_done : Nat → Int32) (f_h_pitch : Nat → Int32) (a1 : Int32) : Option (Int32) :=
  k_ix a1 12 (
    if (f_h_done a1.toNatClampNeg) ≤ 0 then
      k_ix a1 12 (
        some (f_h_pitch a1.toNatClampNeg))
    else
      some 0)
def p_X3_add (v_h_size : Int32) (f_h_strake : Nat → Int32) (f_h_side : Nat → Int32) (f_h_hands : Nat → Int32) (f_h_hours : Nat → Int32) (f_h_pitch : Nat → Int32) (f_h_worth : Nat → Int32) (f_h_state : Nat → Int32) (f_h_done : Nat → Int32) (a1 : Int32) (a2 : Int32) (a3 : Int32) (a4 : Int32) (a5 : Int32) (a6 : Int32) : Option (Int32 × Int32 × (Nat → Int32) × (Nat → Int32) × (Nat → Int32) × (Nat → Int32) × (Nat → Int32) × (Nat → Int32) × (Nat → Int32) × (Nat → Int32)) :=
  k_ix v_h_size 12 (
    k_ix v_h_size 12 (
      k_ix v_h_size 12 (
        k_ix v_h_size 12 (
          k_ix v_h_size 12 (
            k_ix v_h_size 12 (
              k_ix v_h_size 12 (
                k_ix v_h_size 12 (
                  some ((v_h_size + 1) - 1, v_h_size + 1, upd f_h_strake v_h_size.toNatClampNeg a1, upd f_h_side v_h_size.toNatClampNeg a2, upd f_h_hands v_h_size.toNatClampNeg a3, upd f_h_hours v_h_size.toNatClampNeg a4, upd f_h_pitch v_h_size.toNatClampNeg a5, upd f_h_worth v_h_size.toNatClampNeg a6, upd f_h_state v_h_size.toNatClampNeg 0, upd f_h_done v_h_size.toNatClampNeg 0)))))))))
def lb_X3_worthTight_4 (v_h_size : Int32) (f_h_state : Nat → Int32) (f_h_worth : Nat → Int32) (x1_11 : Int32) (x2_12 : Int32) : Option ((Int32 × Int32) ⊕ (Int32)) :=
  if v_h_size ≤ x2_12 then
    some (.inr x1_11)
  else
    k_ix x2_12 12 (
      if (f_h_state x2_12.toNatClampNeg) = 2 then
        k_ix x2_12 12 (
          some (.inl (x1_11 + (f_h_worth x2_12.toNatClampNeg), x2_12 + 1)))
      else
        some (.inl (x1_11 + 0, x2_12 + 1)))
def p_X3_worthTight (v_h_size : Int32) (f_h_state : Nat → Int32) (f_h_worth : Nat → Int32) : Option (Int32) :=
  k_b1 (k_lp (fun s => lb_X3_worthTight_4 v_h_size f_h_state f_h_worth s.1 s.2) k_fuel (0, 0)) fun x1_10 =>
  some x1_10
def p_X6_add (v_h_whole : Int32) (v_h_size : Int32) (f_h_mast : Nat → Int32) (f_h_parts : Nat → Int32) (f_h_strength : Nat → Int32) (a1 : Int32) (a2 : Int32) (a3 : Int32) : Option (Int32 × Int32 × Int32 × (Nat → Int32) × (Nat → Int32) × (Nat → Int32)) :=
  k_ix v_h_size 6 (
    k_ix v_h_size 6 (
      k_ix v_h_size 6 (
        some ((v_h_size + 1) - 1, v_h_whole ||| (1 <<< (v_h_size &&& 31)), v_h_size + 1, upd f_h_mast v_h_size.toNatClampNeg a1, upd f_h_parts v_h_size.toNatClampNeg a2, upd f_h_strength v_h_size.toNatClampNeg a3))))
def p_X7_add (v_h_size : Int32) (f_h_weight : Nat → Int32) (f_h_under : Nat → Int32) (a1 : Int32) (a2 : Int32) : Option (Int32 × Int32 × (Nat → Int32) × (Nat → Int32)) :=
  k_ix v_h_size 12 (
    k_ix v_h_size 12 (
      some ((v_h_size + 1) - 1, v_h_size + 1, upd f_h_weight v_h_size.toNatClampNeg a1, upd f_h_under v_h_size.toNatClampNeg a2)))
def lb_X7_bearsAny_2 (v_h_size : Int32) (v_h_out : Int32) (f_h_under : Nat → Int32) (a1 : Int32) (x2_12 : Int32) : Option ((Int32) ⊕ ((Int32) ⊕ (Unit))) :=
  if v_h_size ≤ x2_12 then
    some (.inr (.inr ()))
  else
    k_b1 (p_X8_hasBit v_h_out x2_12) fun r14 =>
    if r14 = 0 then
      k_ix x2_12 12 (
        if (f_h_under x2_12.toNatClampNeg) = a1 then
          some (.inr (.inl 1))
        else
          some (.inl (x2_12 + 1)))
    else
      some (.inl (x2_12 + 1))
def p_X7_bearsAny (v_h_out : Int32) (v_h_size : Int32) (f_h_under : Nat → Int32) (a1 : Int32) : Option (Int32) :=
  k_bx0 (k_lp (fun s => lb_X7_bearsAny_2 v_h_size v_h_out f_h_under a1 s) k_fuel 0) (fun q => some q) (
    some 0)
def p_X7_mayMove (v_h_out : Int32) (v_h_size : Int32) (f_h_under : Nat → Int32) (a1 : Int32) : Option (Int32) :=
  k_b1 (p_X8_hasBit v_h_out a1) fun r1 =>
  if r1 = 0 then
    k_b1 (p_X7_bearsAny v_h_out v_h_size f_h_under a1) fun r3 =>
    if r3 = 0 then
      some 1
    else
      some 0
  else
    k_b1 (p_X7_mayComeIn v_h_out v_h_size f_h_under (1 <<< (a1 &&& 31))) fun r5 =>
    k_ck (r5 = 0 ∨ r5 = 1) (some r5)
def lb_X6_firstToPart_19 (v_h_whole : Int32) (v_h_size : Int32) (f_h_mast : Nat → Int32) (r1 : Int32) (f_o3 : Nat → Int32) (x5_18 : Int32) (x6_19 : Int32) : Option ((Int32 × Int32) ⊕ (Int32)) :=
  if 3 ≤ x6_19 then
    some (.inr x5_18)
  else
    if 0 ≤ x5_18 then
      some (.inr x5_18)
    else
      k_b1 (p_X6_onMast v_h_whole v_h_size f_h_mast x6_19) fun r22 =>
      k_ix (5 + x6_19) 8 (
        if (r22 * r1) ≤ (f_o3 (5 + x6_19).toNatClampNeg) then
          some (.inl (x5_18, x6_19 + 1))
        else
          k_b1 (p_X6_lowestOn v_h_whole v_h_size f_h_mast x6_19) fun r25 =>
          some (.inl (r25, x6_19 + 1)))
def p_X6_firstToPart (v_h_whole : Int32) (v_h_size : Int32) (f_h_parts : Nat → Int32) (f_h_strength : Nat → Int32) (f_h_mast : Nat → Int32) (f_o3 : Nat → Int32) (a1 : Int32) (a2 : Int32) : Option (Int32) :=
  k_b1 (p_X6_share v_h_whole a1) fun r1 =>
  k_b1 (p_X6_ropeMostOver v_h_whole v_h_size f_h_parts f_h_strength r1 a2) fun r2 =>
  k_b1 (k_lp (fun s => lb_X6_firstToPart_19 v_h_whole v_h_size f_h_mast r1 f_o3 s.1 s.2) k_fuel (r2, 0)) fun x5_17 =>
  some x5_17
def p_X4_total (f_sr_rules : Nat → Int32) (v_h_th_out : Int32) (v_h_th_size : Int32) (f_h_th_weight : Nat → Int32) : Option (Int32) :=
  k_b1 (p_X7_weightOf v_h_th_size f_h_th_weight (v_h_th_out ^^^ (-1))) fun r1 =>
  some ((f_sr_rules 1) + r1)
def p_X4_copyFrom (v_o1_hour : Int32) (v_o1_heel : Int32) (v_o1_water : Int32) (v_o1_pitch : Int32) (v_o1_boatUsed : Int32) (v_o1_heelWent : Int32) (v_o1_pitchTaken : Int32) (v_o1_hoursOfMen : Int32) (v_o1_parted : Int32) (v_o1_moved : Int32) (v_o1_th_out : Int32) (v_o1_th_size : Int32) (f_o1_th_weight : Nat → Int32) (f_h_th_weight : Nat → Int32) (f_o1_th_under : Nat → Int32) (f_h_th_under : Nat → Int32) (v_o1_ta_whole : Int32) (v_o1_ta_size : Int32) (f_o1_ta_mast : Nat → Int32) (f_h_ta_mast : Nat → Int32) (f_o1_ta_parts : Nat → Int32) (f_h_ta_parts : Nat → Int32) (f_o1_ta_strength : Nat → Int32) (f_h_ta_strength : Nat → Int32) (v_o1_se_size : Int32) (f_o1_se_strake : Nat → Int32) (f_h_se_strake : Nat → Int32) (f_o1_se_side : Nat → Int32) (f_h_se_side : Nat → Int32) (f_o1_se_hands : Nat → Int32) (f_h_se_hands : Nat → Int32) (f_o1_se_hours : Nat → Int32) (f_h_se_hours : Nat → Int32) (f_o1_se_pitch : Nat → Int32) (f_h_se_pitch : Nat → Int32) (f_o1_se_worth : Nat → Int32) (f_h_se_worth : Nat → Int32) (f_o1_se_state : Nat → Int32) (f_h_se_state : Nat → Int32) (f_o1_se_done : Nat → Int32) (f_h_se_done : Nat → Int32) : Option (Int32 × Int32 × Int32 × Int32 × Int32 × Int32 × Int32 × Int32 × Int32 × Int32 × Int32 × Int32 × (Nat → Int32) × (Nat → Int32) × Int32 × Int32 × (Nat → Int32) × (Nat → Int32) × (Nat → Int32) × Int32 × (Nat → Int32) × (Nat → Int32) × (Nat → Int32) × (Nat → Int32) × (Nat → Int32) × (Nat → Int32) × (Nat → Int32) × (Nat → Int32)) :=
  k_b4 (p_X7_copyFrom v_o1_th_out v_o1_th_size f_o1_th_weight f_h_th_weight f_o1_th_under f_h_th_under) fun w_h_th_out_1 w_h_th_size_2 w_h_th_weight_3 w_h_th_under_4 =>
  k_b5 (p_X6_copyFrom v_o1_ta_whole v_o1_ta_size f_o1_ta_mast f_h_ta_mast f_o1_ta_parts f_h_ta_parts f_o1_ta_strength f_h_ta_strength) fun w_h_ta_whole_5 w_h_ta_size_6 w_h_ta_mast_7 w_h_ta_parts_8 w_h_ta_strength_9 =>
  k_b9 (p_X3_copyFrom v_o1_se_size f_o1_se_strake f_h_se_strake f_o1_se_side f_h_se_side f_o1_se_hands f_h_se_hands f_o1_se_hours f_h_se_hours f_o1_se_pitch f_h_se_pitch f_o1_se_worth f_h_se_worth f_o1_se_state f_h_se_state f_o1_se_done f_h_se_done) fun w_h_se_size_10 w_h_se_strake_11 w_h_se_side_12 w_h_se_hands_13 w_h_se_hours_14 w_h_se_pitch_15 w_h_se_worth_16 w_h_se_state_17 w_h_se_done_18 =>
  k_ck (v_o1_boatUsed = 0 ∨ v_o1_boatUsed = 1) (
    k_ck (v_o1_heelWent = 0 ∨ v_o1_heelWent = 1) (
      some (v_o1_hour, v_o1_heel, v_o1_water, v_o1_pitch, v_o1_boatUsed, v_o1_heelWent, v_o1_pitchTaken, v_o1_hoursOfMen, v_o1_parted, v_o1_moved, w_h_th_out_1, w_h_th_size_2, w_h_th_weight_3, w_h_th_under_4, w_h_ta_whole_5, w_h_ta_size_6, w_h_ta_mast_7, w_h_ta_parts_8, w_h_ta_strength_9, w_h_se_size_10, w_h_se_strake_11, w_h_se_side_12, w_h_se_hands_13, w_h_se_hours_14, w_h_se_pitch_15, w_h_se_worth_16, w_h_se_state_17, w_h_se_done_18)))
def p_X4_isLost (v_h_water : Int32) : Option (Int32) :=
  if v_h_water ≤ 100 then
    some 0
  else
    some 1
def p_X4_isBare (v_h_heel : Int32) (f_sr_tide : Nat → Int32) (f_h_se_strake : Nat → Int32) (f_h_se_side : Nat → Int32) (a1 : Int32) (a2 : Int32) : Option (Int32) :=
  k_b1 (p_X5_tideIn f_sr_tide a2) fun r1 =>
  k_b1 (p_X3_isBare f_h_se_strake f_h_se_side a1 r1 v_h_heel) fun r2 =>
  k_ck (r2 = 0 ∨ r2 = 1) (some r2)
def lb_X4_flood_4 (v_h_se_size : Int32) (f_h_se_state : Nat → Int32) (v_h_heel : Int32) (f_sr_tide : Nat → Int32) (f_h_se_strake : Nat → Int32) (f_h_se_side : Nat → Int32) (v_h_hour : Int32) (x1_15 : Int32) (x2_16 : Int32) : Option ((Int32 × Int32) ⊕ (Int32)) :=
  if v_h_se_size ≤ x2_16 then
    some (.inr x1_15)
  else
    k_ix x2_16 12 (
      if (f_h_se_state x2_16.toNatClampNeg) = 1 then
        k_b1 (p_X4_isBare v_h_heel f_sr_tide f_h_se_strake f_h_se_side x2_16 v_h_hour) fun r20 =>
        if r20 = 0 then
          some (.inl (x1_15 + 1, x2_16 + 1))
        else
          some (.inl (x1_15 + 0, x2_16 + 1))
      else
        some (.inl (x1_15 + 0, x2_16 + 1)))
def p_X4_flood (v_h_hour : Int32) (v_h_heel : Int32) (v_h_water : Int32) (v_h_se_size : Int32) (f_h_se_state : Nat → Int32) (f_sr_tide : Nat → Int32) (f_h_se_strake : Nat → Int32) (f_h_se_side : Nat → Int32) : Option (Int32) :=
  k_b1 (k_lp (fun s => lb_X4_flood_4 v_h_se_size f_h_se_state v_h_heel f_sr_tide f_h_se_strake f_h_se_side v_h_hour s.1 s.2) k_fuel (0, 0)) fun x1_13 =>
  if x1_13 ≤ 0 then
    some (if 0 < (v_h_water - 5) then (v_h_water - 5) else 0)
  else
    some (v_h_water + (10 * x1_13))
def p_X4_force (f_sr_rules : Nat → Int32) (v_h_th_out : Int32) (v_h_th_size : Int32) (f_h_th_weight : Nat → Int32) (a1 : Int32) : Option (Int32) :=
  k_b1 (p_X4_total f_sr_rules v_h_th_out v_h_th_size f_h_th_weight) fun r1 =>
  some ((r1 * (if 0 ≤ a1 then a1 else 0 - a1)) / 10)
def lb_X4_partTackles_14 (f_sr_rules : Nat → Int32) (v_h_th_out : Int32) (v_h_th_size : Int32) (f_h_th_weight : Nat → Int32) (v_h_heel : Int32) (v_h_ta_size : Int32) (f_h_ta_parts : Nat → Int32) (f_h_ta_strength : Nat → Int32) (f_h_ta_mast : Nat → Int32) (r1 : Int32) (x2_16 : Int32) (c_h_ta_whole_17 : Int32) (c_h_parted_18 : Int32) : Option ((Int32 × Int32 × Int32) ⊕ (Int32 × Int32)) :=
  if 6 ≤ x2_16 then
    some (.inr (c_h_ta_whole_17, c_h_parted_18))
  else
    k_b1 (p_X4_force f_sr_rules v_h_th_out v_h_th_size f_h_th_weight v_h_heel) fun r20 =>
    k_b1 (p_X6_firstToPart c_h_ta_whole_17 v_h_ta_size f_h_ta_parts f_h_ta_strength f_h_ta_mast f_sr_rules r20 r1) fun r21 =>
    if 0 ≤ r21 then
      some (.inl (x2_16 + 1, c_h_ta_whole_17 &&& ((1 <<< (r21 &&& 31)) ^^^ (-1)), c_h_parted_18 + 1))
    else
      some (.inr (c_h_ta_whole_17, c_h_parted_18))
def p_X4_partTackles (v_h_hour : Int32) (v_h_heel : Int32) (v_h_parted : Int32) (f_sr_rain : Nat → Int32) (f_sr_rules : Nat → Int32) (v_h_th_out : Int32) (v_h_th_size : Int32) (f_h_th_weight : Nat → Int32) (v_h_ta_whole : Int32) (v_h_ta_size : Int32) (f_h_ta_parts : Nat → Int32) (f_h_ta_strength : Nat → Int32) (f_h_ta_mast : Nat → Int32) : Option (Int32 × Int32 × Int32) :=
  k_b1 (p_X5_rainsIn f_sr_rain v_h_hour) fun r1 =>
  k_b2 (k_lp (fun s => lb_X4_partTackles_14 f_sr_rules v_h_th_out v_h_th_size f_h_th_weight v_h_heel v_h_ta_size f_h_ta_parts f_h_ta_strength f_h_ta_mast r1 s.1 s.2.1 s.2.2) k_fuel (0, v_h_ta_whole, v_h_parted)) fun c_h_ta_whole_13 c_h_parted_14 =>
  if c_h_ta_whole_13 = 0 then
    some (0, c_h_parted_14, c_h_ta_whole_13)
  else
    some (v_h_heel, c_h_parted_14, c_h_ta_whole_13)
def p_X4_isWorkDone (v_h_pitch : Int32) (v_h_pitchTaken : Int32) (f_h_se_state : Nat → Int32) (f_h_se_done : Nat → Int32) (f_h_se_pitch : Nat → Int32) (f_h_se_hours : Nat → Int32) (a1 : Int32) : Option (Int32 × Int32 × Int32 × (Nat → Int32) × (Nat → Int32)) :=
  k_ix a1 12 (
    if (f_h_se_state a1.toNatClampNeg) = 0 then
      k_ix a1 12 (
        some (1, v_h_pitch, v_h_pitchTaken, upd f_h_se_state a1.toNatClampNeg 1, f_h_se_done))
    else
      k_b1 (p_X3_pitchLacking f_h_se_done f_h_se_pitch a1) fun r3 =>
      k_ix a1 12 (
        if (f_h_se_state a1.toNatClampNeg) = 1 then
          if r3 ≤ v_h_pitch then
            k_ix a1 12 (
              k_ix a1 12 (
                k_b1 (p_X3_hoursLacking f_h_se_state f_h_se_hours (upd f_h_se_done a1.toNatClampNeg ((f_h_se_done a1.toNatClampNeg) + 1)) a1) fun r9 =>
                if r9 = 0 then
                  k_ix a1 12 (
                    some (1, v_h_pitch - r3, v_h_pitchTaken + r3, upd f_h_se_state a1.toNatClampNeg 2, upd f_h_se_done a1.toNatClampNeg ((f_h_se_done a1.toNatClampNeg) + 1)))
                else
                  some (1, v_h_pitch - r3, v_h_pitchTaken + r3, f_h_se_state, upd f_h_se_done a1.toNatClampNeg ((f_h_se_done a1.toNatClampNeg) + 1))))
          else
            some (0, v_h_pitch, v_h_pitchTaken, f_h_se_state, f_h_se_done)
        else
          some (0, v_h_pitch, v_h_pitchTaken, f_h_se_state, f_h_se_done)))
def lb_X4_work_12 (v_h_se_size : Int32) (a1 : Int32) (v_h_heel : Int32) (f_sr_tide : Nat → Int32) (f_h_se_strake : Nat → Int32) (f_h_se_side : Nat → Int32) (v_h_hour : Int32) (f_h_se_hands : Nat → Int32) (f_h_se_pitch : Nat → Int32) (f_h_se_hours : Nat → Int32) (x2_39 : Int32) (x3_40 : Int32) (c_h_se_done_41 : Nat → Int32) (c_h_se_state_42 : Nat → Int32) (c_h_hoursOfMen_43 : Int32) (c_h_pitch_44 : Int32) (c_h_pitchTaken_45 : Int32) : Option ((Int32 × Int32 × (Nat → Int32) × (Nat → Int32) × Int32 × Int32 × Int32) ⊕ ((Nat → Int32) × (Nat → Int32) × Int32 × Int32 × Int32)) :=
  if v_h_se_size ≤ x3_40 then
    some (.inr (c_h_se_done_41, c_h_se_state_42, c_h_hoursOfMen_43, c_h_pitch_44, c_h_pitchTaken_45))
  else
    k_ix x3_40 12 (
      k_b1 (p_X8_hasBit a1 x3_40) fun r48 =>
      if r48 = 0 then
        some (.inl (x2_39, x3_40 + 1, c_h_se_done_41, c_h_se_state_42, c_h_hoursOfMen_43, c_h_pitch_44, c_h_pitchTaken_45))
      else
        k_b1 (p_X4_isBare v_h_heel f_sr_tide f_h_se_strake f_h_se_side x3_40 v_h_hour) fun r50 =>
        if r50 = 0 then
          some (.inl (x2_39, x3_40 + 1, c_h_se_done_41, c_h_se_state_42, c_h_hoursOfMen_43, c_h_pitch_44, c_h_pitchTaken_45))
        else
          if x2_39 < (f_h_se_hands x3_40.toNatClampNeg) then
            some (.inl (x2_39, x3_40 + 1, c_h_se_done_41, c_h_se_state_42, c_h_hoursOfMen_43, c_h_pitch_44, c_h_pitchTaken_45))
          else
            k_b5 (p_X4_isWorkDone c_h_pitch_44 c_h_pitchTaken_45 c_h_se_state_42 c_h_se_done_41 f_h_se_pitch f_h_se_hours x3_40) fun r53 w_h_pitch_54 w_h_pitchTaken_55 w_h_se_state_56 w_h_se_done_57 =>
            if r53 = 0 then
              some (.inl (x2_39, x3_40 + 1, w_h_se_done_57, w_h_se_state_56, c_h_hoursOfMen_43, w_h_pitch_54, w_h_pitchTaken_55))
            else
              some (.inl (x2_39 - (f_h_se_hands x3_40.toNatClampNeg), x3_40 + 1, w_h_se_done_57, w_h_se_state_56, c_h_hoursOfMen_43 + (f_h_se_hands x3_40.toNatClampNeg), w_h_pitch_54, w_h_pitchTaken_55)))
def p_X4_work (v_h_hour : Int32) (v_h_heel : Int32) (v_h_pitch : Int32) (v_h_pitchTaken : Int32) (v_h_hoursOfMen : Int32) (f_sr_rules : Nat → Int32) (v_h_se_size : Int32) (f_h_se_hands : Nat → Int32) (f_sr_tide : Nat → Int32) (f_h_se_strake : Nat → Int32) (f_h_se_side : Nat → Int32) (f_h_se_state : Nat → Int32) (f_h_se_done : Nat → Int32) (f_h_se_pitch : Nat → Int32) (f_h_se_hours : Nat → Int32) (a1 : Int32) : Option (Int32 × Int32 × Int32 × (Nat → Int32) × (Nat → Int32)) :=
  k_b5 (k_lp (fun s => lb_X4_work_12 v_h_se_size a1 v_h_heel f_sr_tide f_h_se_strake f_h_se_side v_h_hour f_h_se_hands f_h_se_pitch f_h_se_hours s.1 s.2.1 s.2.2.1 s.2.2.2.1 s.2.2.2.2.1 s.2.2.2.2.2.1 s.2.2.2.2.2.2) k_fuel (f_sr_rules 3, 0, f_h_se_done, f_h_se_state, v_h_hoursOfMen, v_h_pitch, v_h_pitchTaken)) fun c_h_se_done_34 c_h_se_state_35 c_h_hoursOfMen_36 c_h_pitch_37 c_h_pitchTaken_38 =>
  some (c_h_pitch_37, c_h_pitchTaken_38, c_h_hoursOfMen_36, c_h_se_state_35, c_h_se_done_34)
def p_X4_passHour (v_h_hour : Int32) (v_h_heel : Int32) (v_h_water : Int32) (v_h_pitch : Int32) (v_h_pitchTaken : Int32) (v_h_hoursOfMen : Int32) (v_h_parted : Int32) (f_sr_rain : Nat → Int32) (v_h_se_size : Int32) (f_h_se_state : Nat → Int32) (f_sr_tide : Nat → Int32) (f_h_se_strake : Nat → Int32) (f_h_se_side : Nat → Int32) (f_sr_rules : Nat → Int32) (v_h_th_out : Int32) (v_h_th_size : Int32) (f_h_th_weight : Nat → Int32) (v_h_ta_whole : Int32) (v_h_ta_size : Int32) (f_h_ta_parts : Nat → Int32) (f_h_ta_strength : Nat → Int32) (f_h_ta_mast : Nat → Int32) (f_h_se_hands : Nat → Int32) (f_h_se_done : Nat → Int32) (f_h_se_pitch : Nat → Int32) (f_h_se_hours : Nat → Int32) (a1 : Int32) : Option (Int32 × Int32 × Int32 × Int32 × Int32 × Int32 × Int32 × Int32 × Int32 × (Nat → Int32) × Int32 × (Nat → Int32)) :=
  k_b1 (p_X5_rainsIn f_sr_rain v_h_hour) fun r1 =>
  if r1 = 0 then
    k_b5 (p_X4_work v_h_hour v_h_heel v_h_pitch v_h_pitchTaken v_h_hoursOfMen f_sr_rules v_h_se_size f_h_se_hands f_sr_tide f_h_se_strake f_h_se_side f_h_se_state f_h_se_done f_h_se_pitch f_h_se_hours a1) fun w_h_pitch_7 w_h_pitchTaken_8 w_h_hoursOfMen_9 w_h_se_state_10 w_h_se_done_11 =>
    k_b1 (p_X4_flood v_h_hour v_h_heel v_h_water v_h_se_size w_h_se_state_10 f_sr_tide f_h_se_strake f_h_se_side) fun w_h_water_12 =>
    k_b3 (p_X4_partTackles v_h_hour v_h_heel v_h_parted f_sr_rain f_sr_rules v_h_th_out v_h_th_size f_h_th_weight v_h_ta_whole v_h_ta_size f_h_ta_parts f_h_ta_strength f_h_ta_mast) fun w_h_heel_13 w_h_parted_14 w_h_ta_whole_15 =>
    some (v_h_hour + 1, w_h_heel_13, w_h_water_12, w_h_pitch_7, 0, 0, w_h_pitchTaken_8, w_h_hoursOfMen_9, w_h_parted_14, w_h_se_state_10, w_h_ta_whole_15, w_h_se_done_11)
  else
    k_b1 (p_X4_flood v_h_hour v_h_heel v_h_water v_h_se_size f_h_se_state f_sr_tide f_h_se_strake f_h_se_side) fun w_h_water_3 =>
    k_b3 (p_X4_partTackles v_h_hour v_h_heel v_h_parted f_sr_rain f_sr_rules v_h_th_out v_h_th_size f_h_th_weight v_h_ta_whole v_h_ta_size f_h_ta_parts f_h_ta_strength f_h_ta_mast) fun w_h_heel_4 w_h_parted_5 w_h_ta_whole_6 =>
    some (v_h_hour + 1, w_h_heel_4, w_h_water_3, v_h_pitch, 0, 0, v_h_pitchTaken, v_h_hoursOfMen, w_h_parted_5, f_h_se_state, w_h_ta_whole_6, f_h_se_done)
def p_X4_holds (f_sr_rules : Nat → Int32) (v_h_th_out : Int32) (v_h_th_size : Int32) (f_h_th_weight : Nat → Int32) (v_h_ta_whole : Int32) (v_h_ta_size : Int32) (f_h_ta_parts : Nat → Int32) (f_h_ta_strength : Nat → Int32) (f_h_ta_mast : Nat → Int32) (a1 : Int32) (a2 : Int32) : Option (Int32) :=
  k_b1 (p_X4_force f_sr_rules v_h_th_out v_h_th_size f_h_th_weight a1) fun r1 =>
  if r1 = 0 then
    some 1
  else
    if v_h_ta_whole = 0 then
      some 0
    else
      k_b1 (p_X6_firstToPart v_h_ta_whole v_h_ta_size f_h_ta_parts f_h_ta_strength f_h_ta_mast f_sr_rules r1 a2) fun r4 =>
      if 0 ≤ r4 then
        some 0
      else
        some 1
def p_X4_floats (v_h_hour : Int32) (v_h_heel : Int32) (f_sr_rules : Nat → Int32) (v_h_th_out : Int32) (v_h_th_size : Int32) (f_h_th_weight : Nat → Int32) (f_sr_tide : Nat → Int32) (v_h_se_size : Int32) (f_h_se_state : Nat → Int32) : Option (Int32) :=
  k_b1 (p_X4_total f_sr_rules v_h_th_out v_h_th_size f_h_th_weight) fun r1 =>
  if r1 < (f_sr_rules 2) then
    some 0
  else
    k_b1 (p_X5_tideIn f_sr_tide v_h_hour) fun r3 =>
    k_b1 (p_X5_tideNeeded f_sr_rules r1) fun r4 =>
    if r3 < r4 then
      some 0
    else
      if v_h_heel = 0 then
        k_b1 (p_X3_bitsOf v_h_se_size f_h_se_state 1) fun r7 =>
        if r7 = 0 then
          some 1
        else
          some 0
      else
        some 0
def lb_X4_hoursBare_5 (v_h_heel : Int32) (f_sr_tide : Nat → Int32) (f_h_se_strake : Nat → Int32) (f_h_se_side : Nat → Int32) (a1 : Int32) (x2_10 : Int32) : Option ((Int32) ⊕ (Int32)) :=
  if 96 ≤ x2_10 then
    some (.inr x2_10)
  else
    k_b1 (p_X4_isBare v_h_heel f_sr_tide f_h_se_strake f_h_se_side a1 x2_10) fun r12 =>
    if r12 = 0 then
      some (.inr x2_10)
    else
      some (.inl (x2_10 + 1))
def p_X4_hoursBare (v_h_hour : Int32) (v_h_heel : Int32) (f_sr_tide : Nat → Int32) (f_h_se_strake : Nat → Int32) (f_h_se_side : Nat → Int32) (a1 : Int32) : Option (Int32) :=
  k_b1 (k_lp (fun s => lb_X4_hoursBare_5 v_h_heel f_sr_tide f_h_se_strake f_h_se_side a1 s) k_fuel v_h_hour) fun x2_9 =>
  some (x2_9 - v_h_hour)
def p_X4_moveByBoat (v_h_moved : Int32) (v_h_th_out : Int32) (a1 : Int32) : Option (Int32 × Int32 × Int32) :=
  some (1, v_h_moved + 1, v_h_th_out ^^^ (1 <<< (a1 &&& 31)))
def lb_X0_firstHour_23 (v_h_hour : Int32) (f_sr_tide : Nat → Int32) (r2 : Int32) (x5_12 : Int32) : Option ((Int32) ⊕ (Int32)) :=
  if v_h_hour ≤ x5_12 then
    some (.inr x5_12)
  else
    k_b1 (p_X5_tideIn f_sr_tide x5_12) fun r14 =>
    if r2 ≤ r14 then
      some (.inr x5_12)
    else
      some (.inl (x5_12 + 1))
def p_X0_firstHour (v_h_hour : Int32) (f_sr_rules : Nat → Int32) (f_sr_tide : Nat → Int32) (a2 : Int32) (a3 : Int32) : Option (Int32) :=
  if (f_sr_rules 2) ≤ a2 then
    k_b1 (p_X5_tideNeeded f_sr_rules a2) fun r2 =>
    k_b1 (k_lp (fun s => lb_X0_firstHour_23 v_h_hour f_sr_tide r2 s) k_fuel a3) fun x5_11 =>
    some x5_11
  else
    some 96
def p_X0_takeIfSooner (v_h_hour : Int32) (v_h_things : Int32) (a1 : Int32) (a2 : Int32) : Option (Int32 × Int32) :=
  if v_h_hour ≤ a2 then
    some (v_h_hour, v_h_things)
  else
    some (a2, a1)
def lb_X0_findLeast_40 (r2 : Int32) (v_o1_th_out : Int32) (v_o1_th_size : Int32) (f_o1_th_under : Nat → Int32) (f_o1_th_weight : Nat → Int32) (f_sr_rules : Nat → Int32) (f_sr_tide : Nat → Int32) (r1 : Int32) (a2 : Int32) (v_o1_hour : Int32) (x6_26 : Int32) (x7_27 : Int32) (c_h_hour_28 : Int32) (c_h_things_29 : Int32) : Option ((Int32 × Int32 × Int32 × Int32) ⊕ (Int32 × Int32)) :=
  if (1 <<< ((if 8 < r2 then 8 else r2) &&& 31)) ≤ x7_27 then
    some (.inr (c_h_hour_28, c_h_things_29))
  else
    k_b1 (p_X7_mayComeIn v_o1_th_out v_o1_th_size f_o1_th_under x6_26) fun r31 =>
    if r31 = 0 then
      some (.inl ((x6_26 - v_o1_th_out) &&& v_o1_th_out, x7_27 + 1, c_h_hour_28, c_h_things_29))
    else
      k_b1 (p_J6_bitCount_0f7a4 x6_26) fun r33 =>
      k_b1 (p_X7_weightOf v_o1_th_size f_o1_th_weight x6_26) fun r34 =>
      k_b1 (p_X0_firstHour c_h_hour_28 f_sr_rules f_sr_tide (r1 + r34) (if a2 < (v_o1_hour + r33) then (v_o1_hour + r33) else a2)) fun r35 =>
      k_b2 (p_X0_takeIfSooner c_h_hour_28 c_h_things_29 x6_26 r35) fun w_h_hour_36 w_h_things_37 =>
      some (.inl ((x6_26 - v_o1_th_out) &&& v_o1_th_out, x7_27 + 1, w_h_hour_36, w_h_things_37))
def p_X0_findLeast (v_h_things : Int32) (v_o1_hour : Int32) (f_sr_rules : Nat → Int32) (v_o1_th_out : Int32) (v_o1_th_size : Int32) (f_o1_th_weight : Nat → Int32) (f_o1_th_under : Nat → Int32) (f_sr_tide : Nat → Int32) (a2 : Int32) : Option (Int32 × Int32) :=
  k_b1 (p_X4_total f_sr_rules v_o1_th_out v_o1_th_size f_o1_th_weight) fun r1 =>
  k_b1 (p_J6_bitCount_0f7a4 v_o1_th_out) fun r2 =>
  k_b2 (k_lp (fun s => lb_X0_findLeast_40 r2 v_o1_th_out v_o1_th_size f_o1_th_under f_o1_th_weight f_sr_rules f_sr_tide r1 a2 v_o1_hour s.1 s.2.1 s.2.2.1 s.2.2.2) k_fuel (0, 0, 96, v_h_things)) fun c_h_hour_24 c_h_things_25 =>
  some (c_h_hour_24, c_h_things_25)
def lb_X1_least_4 (a1 : Int32) (f_h_tapped : Nat → Int32) (x2_10 : Int32) (x3_11 : Int32) : Option ((Int32 × Int32) ⊕ (Int32)) :=
  if a1 ≤ x3_11 then
    some (.inr x2_10)
  else
    k_ix x3_11 30 (
      if (f_h_tapped x3_11.toNatClampNeg) = 1 then
        some (.inl (x2_10 + 1, x3_11 + 1))
      else
        some (.inl (x2_10 + 0, x3_11 + 1)))
def p_X1_least (f_h_tapped : Nat → Int32) (a1 : Int32) : Option (Int32) :=
  k_b1 (k_lp (fun s => lb_X1_least_4 a1 f_h_tapped s.1 s.2) k_fuel (0, 0)) fun x2_9 =>
  some x2_9
def lb_X1_most_4 (a1 : Int32) (f_h_tapped : Nat → Int32) (x2_10 : Int32) (x3_11 : Int32) : Option ((Int32 × Int32) ⊕ (Int32)) :=
  if a1 ≤ x3_11 then
    some (.inr x2_10)
  else
    k_ix x3_11 30 (
      if (f_h_tapped x3_11.toNatClampNeg) = 0 then
        some (.inl (x2_10 + 0, x3_11 + 1))
      else
        some (.inl (x2_10 + 1, x3_11 + 1)))
def p_X1_most (f_h_tapped : Nat → Int32) (a1 : Int32) : Option (Int32) :=
  k_b1 (k_lp (fun s => lb_X1_most_4 a1 f_h_tapped s.1 s.2) k_fuel (0, 0)) fun x2_9 =>
  some x2_9
def lb_X1_leastRuns_7 (a1 : Int32) (f_h_tapped : Nat → Int32) (x2_31 : Int32) (x3_32 : Int32) (x4_33 : Int32) : Option ((Int32 × Int32 × Int32) ⊕ (Int32)) :=
  if a1 ≤ x4_33 then
    some (.inr x2_31)
  else
    k_ix x4_33 30 (
      if (f_h_tapped x4_33.toNatClampNeg) = 1 then
        if x3_32 = 0 then
          k_ix x4_33 30 (
            if (f_h_tapped x4_33.toNatClampNeg) = 1 then
              some (.inl (x2_31 + 1, 1, x4_33 + 1))
            else
              k_ix x4_33 30 (
                if (f_h_tapped x4_33.toNatClampNeg) = 0 then
                  some (.inl (x2_31 + 1, 0, x4_33 + 1))
                else
                  if x3_32 = 0 then
                    some (.inl (x2_31 + 1, 0, x4_33 + 1))
                  else
                    some (.inl (x2_31 + 1, 1, x4_33 + 1))))
        else
          k_ix x4_33 30 (
            if (f_h_tapped x4_33.toNatClampNeg) = 1 then
              some (.inl (x2_31, 1, x4_33 + 1))
            else
              k_ix x4_33 30 (
                if (f_h_tapped x4_33.toNatClampNeg) = 0 then
                  some (.inl (x2_31, 0, x4_33 + 1))
                else
                  if x3_32 = 0 then
                    some (.inl (x2_31, 0, x4_33 + 1))
                  else
                    some (.inl (x2_31, 1, x4_33 + 1))))
      else
        k_ix x4_33 30 (
          if (f_h_tapped x4_33.toNatClampNeg) = 1 then
            some (.inl (x2_31, 1, x4_33 + 1))
          else
            k_ix x4_33 30 (
              if (f_h_tapped x4_33.toNatClampNeg) = 0 then
                some (.inl (x2_31, 0, x4_33 + 1))
              else
                if x3_32 = 0 then
                  some (.inl (x2_31, 0, x4_33 + 1))
                else
                  some (.inl (x2_31, 1, x4_33 + 1)))))
def p_X1_leastRuns (f_h_tapped : Nat → Int32) (a1 : Int32) : Option (Int32) :=
  k_b1 (k_lp (fun s => lb_X1_leastRuns_7 a1 f_h_tapped s.1 s.2.1 s.2.2) k_fuel (0, 0, 0)) fun x2_30 =>
  some x2_30
def lb_X1_mostRuns_11 (a1 : Int32) (f_h_tapped : Nat → Int32) (x3_18 : Int32) (x4_19 : Int32) (x5_20 : Int32) : Option ((Int32 × Int32 × Int32) ⊕ (Int32 × Int32)) :=
  if a1 ≤ x5_20 then
    some (.inr (x3_18, x4_19))
  else
    k_ix x5_20 30 (
      if (f_h_tapped x5_20.toNatClampNeg) = 0 then
        k_ix x5_20 30 (
          if (f_h_tapped x5_20.toNatClampNeg) = 1 then
            some (.inl ((-31), (-31), x5_20 + 1))
          else
            some (.inl ((-31), if x3_18 < x4_19 then x4_19 else x3_18, x5_20 + 1)))
      else
        k_ix x5_20 30 (
          if (f_h_tapped x5_20.toNatClampNeg) = 1 then
            some (.inl (if x3_18 < (x4_19 + 1) then (x4_19 + 1) else x3_18, (-31), x5_20 + 1))
          else
            some (.inl (if x3_18 < (x4_19 + 1) then (x4_19 + 1) else x3_18, if x3_18 < x4_19 then x4_19 else x3_18, x5_20 + 1))))
def p_X1_mostRuns (f_h_tapped : Nat → Int32) (a1 : Int32) : Option (Int32) :=
  k_b2 (k_lp (fun s => lb_X1_mostRuns_11 a1 f_h_tapped s.1 s.2.1 s.2.2) k_fuel ((-31), 0, 0)) fun x3_16 x4_17 =>
  some (if x3_16 < x4_17 then x4_17 else x3_16)
def lb_X2_beginnings_18 (a2 : Int32) (f_sr_rain : Nat → Int32) (v_o0_hour : Int32) (v_o0_heel : Int32) (f_sr_tide : Nat → Int32) (f_o0_se_strake : Nat → Int32) (f_o0_se_side : Nat → Int32) (a1 : Int32) (r1 : Int32) (x4_23 : Int32) (x5_24 : Int32) (x6_25 : Int32) : Option ((Int32 × Int32 × Int32) ⊕ (Int32)) :=
  if a2 ≤ x6_25 then
    some (.inr x4_23)
  else
    k_b1 (p_X5_rainsIn f_sr_rain (v_o0_hour + x6_25)) fun r27 =>
    if r27 = 0 then
      k_b1 (p_X4_isBare v_o0_heel f_sr_tide f_o0_se_strake f_o0_se_side a1 (v_o0_hour + x6_25)) fun r30 =>
      if r30 = 0 then
        if 0 < r1 then
          some (.inl (x4_23, 0, x6_25 + 1))
        else
          some (.inl (x4_23 ||| (1 <<< (((x6_25 - r1) + 1) &&& 31)), 0, x6_25 + 1))
      else
        if (x5_24 + 1) < r1 then
          some (.inl (x4_23, x5_24 + 1, x6_25 + 1))
        else
          some (.inl (x4_23 ||| (1 <<< (((x6_25 - r1) + 1) &&& 31)), x5_24 + 1, x6_25 + 1))
    else
      if 0 < r1 then
        some (.inl (x4_23, 0, x6_25 + 1))
      else
        some (.inl (x4_23 ||| (1 <<< (((x6_25 - r1) + 1) &&& 31)), 0, x6_25 + 1))
def p_X2_beginnings (v_o0_hour : Int32) (v_o0_heel : Int32) (f_o0_se_state : Nat → Int32) (f_o0_se_hours : Nat → Int32) (f_o0_se_done : Nat → Int32) (f_sr_rain : Nat → Int32) (f_sr_tide : Nat → Int32) (f_o0_se_strake : Nat → Int32) (f_o0_se_side : Nat → Int32) (a1 : Int32) (a2 : Int32) : Option (Int32) :=
  k_b1 (p_X3_hoursLacking f_o0_se_state f_o0_se_hours f_o0_se_done a1) fun r1 =>
  k_b1 (k_lp (fun s => lb_X2_beginnings_18 a2 f_sr_rain v_o0_hour v_o0_heel f_sr_tide f_o0_se_strake f_o0_se_side a1 r1 s.1 s.2.1 s.2.2) k_fuel (0, 0, 0)) fun x4_22 =>
  some x4_22
def lb_X2_gather_94 (c_h_size_62 : Int32) (c_h_hours_59 : Nat → Int32) (r68 : Int32) (x3_57 : Int32) (f_o1_se_hands : Nat → Int32) (x4_87 : Int32) (c_h_hands_88 : Nat → Int64) : Option ((Int32 × (Nat → Int64)) ⊕ ((Nat → Int64))) :=
  k_ix c_h_size_62 5 (
    if ((upd c_h_hours_59 c_h_size_62.toNatClampNeg r68) c_h_size_62.toNatClampNeg) ≤ x4_87 then
      some (.inr c_h_hands_88)
    else
      k_ix c_h_size_62 5 (
        k_ix x3_57 12 (
          k_ix c_h_size_62 5 (
            some (.inl (x4_87 + 1, vp_updL c_h_hands_88 c_h_size_62.toNatClampNeg ((c_h_hands_88 c_h_size_62.toNatClampNeg) ||| (((f_o1_se_hands x3_57.toNatClampNeg).toInt64) <<< ((8 * x4_87).toInt64 &&& 63)))))))))
def lb_X2_gather_7 (v_o1_se_size : Int32) (f_o1_se_state : Nat → Int32) (f_o1_se_hours : Nat → Int32) (f_o1_se_done : Nat → Int32) (v_o1_hour : Int32) (v_o1_heel : Int32) (f_sr_rain : Nat → Int32) (f_sr_tide : Nat → Int32) (f_o1_se_strake : Nat → Int32) (f_o1_se_side : Nat → Int32) (a2 : Int32) (f_o1_se_hands : Nat → Int32) (x3_57 : Int32) (c_h_hands_58 : Nat → Int64) (c_h_hours_59 : Nat → Int32) (c_h_mayBegin_60 : Nat → Int32) (c_h_seam_61 : Nat → Int32) (c_h_size_62 : Int32) : Option ((Int32 × (Nat → Int64) × (Nat → Int32) × (Nat → Int32) × (Nat → Int32) × Int32) ⊕ ((Nat → Int64) × (Nat → Int32) × (Nat → Int32) × (Nat → Int32) × Int32)) :=
  if v_o1_se_size ≤ x3_57 then
    some (.inr (c_h_hands_58, c_h_hours_59, c_h_mayBegin_60, c_h_seam_61, c_h_size_62))
  else
    if 5 ≤ c_h_size_62 then
      some (.inr (c_h_hands_58, c_h_hours_59, c_h_mayBegin_60, c_h_seam_61, c_h_size_62))
    else
      k_ix x3_57 12 (
        if (f_o1_se_state x3_57.toNatClampNeg) = 2 then
          some (.inl (x3_57 + 1, c_h_hands_58, c_h_hours_59, c_h_mayBegin_60, c_h_seam_61, c_h_size_62))
        else
          k_ix c_h_size_62 5 (
            k_b1 (p_X3_hoursLacking f_o1_se_state f_o1_se_hours f_o1_se_done x3_57) fun r68 =>
            k_ix c_h_size_62 5 (
              k_b1 (p_X2_beginnings v_o1_hour v_o1_heel f_o1_se_state f_o1_se_hours f_o1_se_done f_sr_rain f_sr_tide f_o1_se_strake f_o1_se_side x3_57 a2) fun r70 =>
              k_ix c_h_size_62 5 (
                k_ix c_h_size_62 5 (
                  k_b1 (k_lp (fun s => lb_X2_gather_94 c_h_size_62 c_h_hours_59 r68 x3_57 f_o1_se_hands s.1 s.2) k_fuel (0, vp_updL c_h_hands_58 c_h_size_62.toNatClampNeg 0)) fun c_h_hands_86 =>
                  some (.inl (x3_57 + 1, c_h_hands_86, upd c_h_hours_59 c_h_size_62.toNatClampNeg r68, upd c_h_mayBegin_60 c_h_size_62.toNatClampNeg r70, upd c_h_seam_61 c_h_size_62.toNatClampNeg x3_57, c_h_size_62 + 1)))))))
def p_X2_gather (v_o1_hour : Int32) (v_o1_heel : Int32) (v_o1_se_size : Int32) (f_o1_se_state : Nat → Int32) (f_h_seam : Nat → Int32) (f_o1_se_hours : Nat → Int32) (f_o1_se_done : Nat → Int32) (f_h_hours : Nat → Int32) (f_sr_rain : Nat → Int32) (f_sr_tide : Nat → Int32) (f_o1_se_strake : Nat → Int32) (f_o1_se_side : Nat → Int32) (f_h_mayBegin : Nat → Int32) (f_h_hands : Nat → Int64) (f_o1_se_hands : Nat → Int32) (a2 : Int32) : Option (Int32 × (Nat → Int32) × (Nat → Int32) × (Nat → Int32) × (Nat → Int64)) :=
  k_b5 (k_lp (fun s => lb_X2_gather_7 v_o1_se_size f_o1_se_state f_o1_se_hours f_o1_se_done v_o1_hour v_o1_heel f_sr_rain f_sr_tide f_o1_se_strake f_o1_se_side a2 f_o1_se_hands s.1 s.2.1 s.2.2.1 s.2.2.2.1 s.2.2.2.2.1 s.2.2.2.2.2) k_fuel (0, f_h_hands, f_h_hours, f_h_mayBegin, f_h_seam, 0)) fun c_h_hands_52 c_h_hours_53 c_h_mayBegin_54 c_h_seam_55 c_h_size_56 =>
  some (c_h_size_56, c_h_seam_55, c_h_hours_53, c_h_mayBegin_54, c_h_hands_52)
def p_X2_areMenEnough (v_h_menShort : Int64) (a1 : Int64) : Option (Int32) :=
  if (lg_cmp ((a1 + v_h_menShort) &&& (-9187201950435737472)) 0) = 0 then
    some 1
  else
    some 0
def lb_X2_isPlaced_36 (a2 : Int32) (f_o0_mayBegin : Nat → Int32) (v_o0_menShort : Int64) (a3 : Int64) (f_o0_hands : Nat → Int64) (self : Int64 → Int32 → Int32 → Int32 → Int32 → (Nat → Int32) → (Nat → Int32) → (Nat → Int64) → Int32 → Int32 → Int64 → Option (Int32 × (Nat → Int32))) (v_o0_size : Int32) (v_o0_planned : Int32) (v_o0_worth : Int32) (v_o0_pitch : Int32) (a1 : Int32) (x5_30 : Int32) (c_o0_tried_31 : Nat → Int32) : Option ((Int32 × (Nat → Int32)) ⊕ ((Int32 × (Nat → Int32)) ⊕ ((Nat → Int32)))) :=
  if 6 ≤ x5_30 then
    some (.inr (.inr c_o0_tried_31))
  else
    k_ix a2 5 (
      k_ix a2 5 (
        k_b1 (p_X8_hasBit (f_o0_mayBegin a2.toNatClampNeg) x5_30) fun r35 =>
        if r35 = 0 then
          some (.inl (x5_30 + 1, c_o0_tried_31))
        else
          k_b1 (p_X2_areMenEnough v_o0_menShort (a3 + ((f_o0_hands a2.toNatClampNeg) <<< ((8 * x5_30).toInt64 &&& 63)))) fun r37 =>
          if r37 = 0 then
            some (.inl (x5_30 + 1, c_o0_tried_31))
          else
            k_ix a2 5 (
              k_b2 (self v_o0_menShort v_o0_size v_o0_planned v_o0_worth v_o0_pitch (upd c_o0_tried_31 a2.toNatClampNeg x5_30) f_o0_mayBegin f_o0_hands a1 (a2 + 1) (a3 + ((f_o0_hands a2.toNatClampNeg) <<< ((8 * x5_30).toInt64 &&& 63)))) fun r40 w_o0_tried_41 =>
              if r40 = 0 then
                some (.inl (x5_30 + 1, w_o0_tried_41))
              else
                some (.inr (.inl (1, w_o0_tried_41))))))
def pb_X2_isPlaced (self : Int64 → Int32 → Int32 → Int32 → Int32 → (Nat → Int32) → (Nat → Int32) → (Nat → Int64) → Int32 → Int32 → Int64 → Option (Int32 × (Nat → Int32))) (v_o0_menShort : Int64) (v_o0_size : Int32) (v_o0_planned : Int32) (v_o0_worth : Int32) (v_o0_pitch : Int32) (f_o0_tried : Nat → Int32) (f_o0_mayBegin : Nat → Int32) (f_o0_hands : Nat → Int64) (a1 : Int32) (a2 : Int32) (a3 : Int64) : Option (Int32 × (Nat → Int32)) :=
  if v_o0_size ≤ a2 then
    some (1, f_o0_tried)
  else
    if a2 < 5 then
      k_b1 (p_X8_hasBit a1 a2) fun r3 =>
      if r3 = 0 then
        k_b2 (self v_o0_menShort v_o0_size v_o0_planned v_o0_worth v_o0_pitch f_o0_tried f_o0_mayBegin f_o0_hands a1 (a2 + 1) a3) fun r43 w_o0_tried_44 =>
        k_ck (r43 = 0 ∨ r43 = 1) (some (r43, w_o0_tried_44))
      else
        k_bx1 (k_lp (fun s => lb_X2_isPlaced_36 a2 f_o0_mayBegin v_o0_menShort a3 f_o0_hands self v_o0_size v_o0_planned v_o0_worth v_o0_pitch a1 s.1 s.2) k_fuel (0, f_o0_tried)) (fun q => some q) fun c_o0_tried_29 =>
        some (0, c_o0_tried_29)
    else
      some (1, f_o0_tried)
noncomputable def p_X2_isPlaced (d : Nat) : Int64 → Int32 → Int32 → Int32 → Int32 → (Nat → Int32) → (Nat → Int32) → (Nat → Int64) → Int32 → Int32 → Int64 → Option (Int32 × (Nat → Int32)) := Nat.rec (motive := fun _ => Int64 → Int32 → Int32 → Int32 → Int32 → (Nat → Int32) → (Nat → Int32) → (Nat → Int64) → Int32 → Int32 → Int64 → Option (Int32 × (Nat → Int32))) (fun _ _ _ _ _ _ _ _ _ _ _ => none) (fun _ self => pb_X2_isPlaced self) d
noncomputable def lb_X2_tryOut_8 (v_h_size : Int32) (a1 : Int32) (f_o2_se_done : Nat → Int32) (f_o2_se_pitch : Nat → Int32) (f_h_seam : Nat → Int32) (f_o2_se_worth : Nat → Int32) (x3_41 : Int32) (x4_42 : Int32) (x5_43 : Int32) : Option ((Int32 × Int32 × Int32) ⊕ (Int32 × Int32)) :=
  if v_h_size ≤ x5_43 then
    some (.inr (x3_41, x4_42))
  else
    k_b1 (p_X8_hasBit a1 x5_43) fun r45 =>
    if r45 = 0 then
      k_b1 (p_X8_hasBit a1 x5_43) fun r47 =>
      if r47 = 0 then
        some (.inl (x3_41 + 0, x4_42 + 0, x5_43 + 1))
      else
        k_ix x5_43 5 (
          k_b1 (p_X3_pitchLacking f_o2_se_done f_o2_se_pitch (f_h_seam x5_43.toNatClampNeg)) fun r50 =>
          some (.inl (x3_41 + 0, x4_42 + r50, x5_43 + 1)))
    else
      k_ix x5_43 5 (
        k_ix (f_h_seam x5_43.toNatClampNeg) 12 (
          k_b1 (p_X8_hasBit a1 x5_43) fun r53 =>
          if r53 = 0 then
            some (.inl (x3_41 + (f_o2_se_worth (f_h_seam x5_43.toNatClampNeg).toNatClampNeg), x4_42 + 0, x5_43 + 1))
          else
            k_ix x5_43 5 (
              k_b1 (p_X3_pitchLacking f_o2_se_done f_o2_se_pitch (f_h_seam x5_43.toNatClampNeg)) fun r56 =>
              some (.inl (x3_41 + (f_o2_se_worth (f_h_seam x5_43.toNatClampNeg).toNatClampNeg), x4_42 + r56, x5_43 + 1)))))
noncomputable def p_X2_tryOut (v_h_menShort : Int64) (v_h_size : Int32) (v_h_planned : Int32) (v_h_worth : Int32) (v_h_pitch : Int32) (v_o2_pitch : Int32) (f_h_seam : Nat → Int32) (f_o2_se_done : Nat → Int32) (f_o2_se_pitch : Nat → Int32) (f_o2_se_worth : Nat → Int32) (f_h_tried : Nat → Int32) (f_h_mayBegin : Nat → Int32) (f_h_hands : Nat → Int64) (f_h_begins : Nat → Int32) (a1 : Int32) : Option (Int32 × Int32 × Int32 × (Nat → Int32) × (Nat → Int32)) :=
  k_b2 (k_lp (fun s => lb_X2_tryOut_8 v_h_size a1 f_o2_se_done f_o2_se_pitch f_h_seam f_o2_se_worth s.1 s.2.1 s.2.2) k_fuel (0, 0, 0)) fun x3_28 x4_29 =>
  if v_h_worth < x3_28 then
    if v_o2_pitch < x4_29 then
      some (v_h_planned, v_h_worth, v_h_pitch, f_h_tried, f_h_begins)
    else
      k_b2 (p_X2_isPlaced 7 v_h_menShort v_h_size v_h_planned v_h_worth v_h_pitch f_h_tried f_h_mayBegin f_h_hands a1 0 0) fun r32 w_h_tried_33 =>
      if r32 = 0 then
        some (v_h_planned, v_h_worth, v_h_pitch, w_h_tried_33, f_h_begins)
      else
        some (a1, x3_28, x4_29, w_h_tried_33, k_cpy 5 w_h_tried_33 f_h_begins)
  else
    if x3_28 = v_h_worth then
      if v_h_pitch ≤ x4_29 then
        some (v_h_planned, v_h_worth, v_h_pitch, f_h_tried, f_h_begins)
      else
        if v_o2_pitch < x4_29 then
          some (v_h_planned, v_h_worth, v_h_pitch, f_h_tried, f_h_begins)
        else
          k_b2 (p_X2_isPlaced 7 v_h_menShort v_h_size v_h_planned v_h_worth v_h_pitch f_h_tried f_h_mayBegin f_h_hands a1 0 0) fun r38 w_h_tried_39 =>
          if r38 = 0 then
            some (v_h_planned, v_h_worth, v_h_pitch, w_h_tried_39, f_h_begins)
          else
            some (a1, x3_28, x4_29, w_h_tried_39, k_cpy 5 w_h_tried_39 f_h_begins)
    else
      some (v_h_planned, v_h_worth, v_h_pitch, f_h_tried, f_h_begins)
noncomputable def lb_X2_make_44 (w_h_size_1 : Int32) (f_sr_rules : Nat → Int32) (v_o1_pitch : Int32) (w_h_seam_2 : Nat → Int32) (f_o1_se_done : Nat → Int32) (f_o1_se_pitch : Nat → Int32) (f_o1_se_worth : Nat → Int32) (w_h_mayBegin_4 : Nat → Int32) (w_h_hands_5 : Nat → Int64) (x3_30 : Int32) (c_h_begins_31 : Nat → Int32) (c_h_tried_32 : Nat → Int32) (c_h_pitch_33 : Int32) (c_h_planned_34 : Int32) (c_h_worth_35 : Int32) : Option ((Int32 × (Nat → Int32) × (Nat → Int32) × Int32 × Int32 × Int32) ⊕ ((Nat → Int32) × (Nat → Int32) × Int32 × Int32 × Int32)) :=
  if (1 <<< (w_h_size_1 &&& 31)) ≤ x3_30 then
    some (.inr (c_h_begins_31, c_h_tried_32, c_h_pitch_33, c_h_planned_34, c_h_worth_35))
  else
    k_b5 (p_X2_tryOut (((127 - (f_sr_rules 3)).toInt64) * 72340172838076673) w_h_size_1 c_h_planned_34 c_h_worth_35 c_h_pitch_33 v_o1_pitch w_h_seam_2 f_o1_se_done f_o1_se_pitch f_o1_se_worth c_h_tried_32 w_h_mayBegin_4 w_h_hands_5 c_h_begins_31 x3_30) fun w_h_planned_37 w_h_worth_38 w_h_pitch_39 w_h_tried_40 w_h_begins_41 =>
    some (.inl (x3_30 + 1, w_h_begins_41, w_h_tried_40, w_h_pitch_39, w_h_planned_37, w_h_worth_38))
noncomputable def p_X2_make (v_o1_hour : Int32) (v_o1_heel : Int32) (v_o1_pitch : Int32) (v_o1_se_size : Int32) (f_o1_se_state : Nat → Int32) (f_h_seam : Nat → Int32) (f_o1_se_hours : Nat → Int32) (f_o1_se_done : Nat → Int32) (f_h_hours : Nat → Int32) (f_sr_rain : Nat → Int32) (f_sr_tide : Nat → Int32) (f_o1_se_strake : Nat → Int32) (f_o1_se_side : Nat → Int32) (f_h_mayBegin : Nat → Int32) (f_h_hands : Nat → Int64) (f_o1_se_hands : Nat → Int32) (f_sr_rules : Nat → Int32) (f_o1_se_pitch : Nat → Int32) (f_o1_se_worth : Nat → Int32) (f_h_tried : Nat → Int32) (f_h_begins : Nat → Int32) (a2 : Int32) : Option (Int64 × Int32 × Int32 × Int32 × Int32 × (Nat → Int32) × (Nat → Int32) × (Nat → Int32) × (Nat → Int64) × (Nat → Int32) × (Nat → Int32)) :=
  k_b5 (p_X2_gather v_o1_hour v_o1_heel v_o1_se_size f_o1_se_state f_h_seam f_o1_se_hours f_o1_se_done f_h_hours f_sr_rain f_sr_tide f_o1_se_strake f_o1_se_side f_h_mayBegin f_h_hands f_o1_se_hands a2) fun w_h_size_1 w_h_seam_2 w_h_hours_3 w_h_mayBegin_4 w_h_hands_5 =>
  k_b5 (k_lp (fun s => lb_X2_make_44 w_h_size_1 f_sr_rules v_o1_pitch w_h_seam_2 f_o1_se_done f_o1_se_pitch f_o1_se_worth w_h_mayBegin_4 w_h_hands_5 s.1 s.2.1 s.2.2.1 s.2.2.2.1 s.2.2.2.2.1 s.2.2.2.2.2) k_fuel (1, f_h_begins, f_h_tried, 0, 0, 0)) fun c_h_begins_25 c_h_tried_26 c_h_pitch_27 c_h_planned_28 c_h_worth_29 =>
  some (((127 - (f_sr_rules 3)).toInt64) * 72340172838076673, w_h_size_1, c_h_planned_28, c_h_worth_29, c_h_pitch_27, w_h_seam_2, w_h_hours_3, w_h_mayBegin_4, w_h_hands_5, c_h_tried_26, c_h_begins_25)
def lb_X2_seamBits_4 (v_h_size : Int32) (v_h_planned : Int32) (f_h_seam : Nat → Int32) (x1_12 : Int32) (x2_13 : Int32) : Option ((Int32 × Int32) ⊕ (Int32)) :=
  if v_h_size ≤ x2_13 then
    some (.inr x1_12)
  else
    k_b1 (p_X8_hasBit v_h_planned x2_13) fun r15 =>
    if r15 = 0 then
      some (.inl (x1_12 ||| 0, x2_13 + 1))
    else
      k_ix x2_13 5 (
        some (.inl (x1_12 ||| (1 <<< ((f_h_seam x2_13.toNatClampNeg) &&& 31)), x2_13 + 1)))
def p_X2_seamBits (v_h_size : Int32) (v_h_planned : Int32) (f_h_seam : Nat → Int32) : Option (Int32) :=
  k_b1 (k_lp (fun s => lb_X2_seamBits_4 v_h_size v_h_planned f_h_seam s.1 s.2) k_fuel (0, 0)) fun x1_11 =>
  some x1_11
def lb_X2_beginningOf_2 (v_h_size : Int32) (v_h_planned : Int32) (f_h_seam : Nat → Int32) (a1 : Int32) (f_h_begins : Nat → Int32) (x2_13 : Int32) : Option ((Int32) ⊕ ((Int32) ⊕ (Unit))) :=
  if v_h_size ≤ x2_13 then
    some (.inr (.inr ()))
  else
    k_b1 (p_X8_hasBit v_h_planned x2_13) fun r15 =>
    if r15 = 0 then
      some (.inl (x2_13 + 1))
    else
      k_ix x2_13 5 (
        if (f_h_seam x2_13.toNatClampNeg) = a1 then
          k_ix x2_13 5 (
            some (.inr (.inl (f_h_begins x2_13.toNatClampNeg))))
        else
          some (.inl (x2_13 + 1)))
def p_X2_beginningOf (v_h_size : Int32) (v_h_planned : Int32) (f_h_seam : Nat → Int32) (f_h_begins : Nat → Int32) (a1 : Int32) : Option (Int32) :=
  k_bx0 (k_lp (fun s => lb_X2_beginningOf_2 v_h_size v_h_planned f_h_seam a1 f_h_begins s) k_fuel 0) (fun q => some q) (
    some (-4))
def lb_X2_ordersOf_4 (v_h_size : Int32) (v_h_planned : Int32) (a1 : Int32) (f_h_begins : Nat → Int32) (f_h_hours : Nat → Int32) (f_h_seam : Nat → Int32) (x2_19 : Int32) (x3_20 : Int32) : Option ((Int32 × Int32) ⊕ (Int32)) :=
  if v_h_size ≤ x3_20 then
    some (.inr x2_19)
  else
    k_b1 (p_X8_hasBit v_h_planned x3_20) fun r22 =>
    if r22 = 0 then
      some (.inl (x2_19 ||| 0, x3_20 + 1))
    else
      k_ix x3_20 5 (
        if a1 < (f_h_begins x3_20.toNatClampNeg) then
          some (.inl (x2_19 ||| 0, x3_20 + 1))
        else
          k_ix x3_20 5 (
            k_ix x3_20 5 (
              if ((f_h_begins x3_20.toNatClampNeg) + (f_h_hours x3_20.toNatClampNeg)) ≤ a1 then
                some (.inl (x2_19 ||| 0, x3_20 + 1))
              else
                k_ix x3_20 5 (
                  some (.inl (x2_19 ||| (1 <<< ((f_h_seam x3_20.toNatClampNeg) &&& 31)), x3_20 + 1))))))
def p_X2_ordersOf (v_h_size : Int32) (v_h_planned : Int32) (f_h_begins : Nat → Int32) (f_h_hours : Nat → Int32) (f_h_seam : Nat → Int32) (a1 : Int32) : Option (Int32) :=
  k_b1 (k_lp (fun s => lb_X2_ordersOf_4 v_h_size v_h_planned a1 f_h_begins f_h_hours f_h_seam s.1 s.2) k_fuel (0, 0)) fun x2_18 =>
  some x2_18
def lb_X0_isFound_13 (w_h_trial_se_size_20 : Int32) (f_sr_rain : Nat → Int32) (f_sr_tide : Nat → Int32) (w_h_trial_se_strake_21 : Nat → Int32) (w_h_trial_se_side_22 : Nat → Int32) (f_sr_rules : Nat → Int32) (w_h_trial_th_out_11 : Int32) (w_h_trial_th_size_12 : Int32) (w_h_trial_th_weight_13 : Nat → Int32) (w_h_trial_ta_size_16 : Int32) (w_h_trial_ta_parts_18 : Nat → Int32) (w_h_trial_ta_strength_19 : Nat → Int32) (w_h_trial_ta_mast_17 : Nat → Int32) (w_h_trial_se_hands_23 : Nat → Int32) (w_h_trial_se_pitch_25 : Nat → Int32) (w_h_trial_se_hours_24 : Nat → Int32) (x2_98 : Int32) (c_h_trial_se_done_99 : Nat → Int32) (c_h_trial_se_state_100 : Nat → Int32) (c_h_trial_boatUsed_101 : Int32) (c_h_trial_heel_102 : Int32) (c_h_trial_heelWent_103 : Int32) (c_h_trial_hour_104 : Int32) (c_h_trial_hoursOfMen_105 : Int32) (c_h_trial_parted_106 : Int32) (c_h_trial_pitch_107 : Int32) (c_h_trial_pitchTaken_108 : Int32) (c_h_trial_water_109 : Int32) (c_h_trial_ta_whole_110 : Int32) : Option ((Int32 × (Nat → Int32) × (Nat → Int32) × Int32 × Int32 × Int32 × Int32 × Int32 × Int32 × Int32 × Int32 × Int32 × Int32) ⊕ ((Nat → Int32) × (Nat → Int32) × Int32 × Int32 × Int32 × Int32 × Int32 × Int32 × Int32 × Int32 × Int32 × Int32)) :=
  if 96 ≤ x2_98 then
    some (.inr (c_h_trial_se_done_99, c_h_trial_se_state_100, c_h_trial_boatUsed_101, c_h_trial_heel_102, c_h_trial_heelWent_103, c_h_trial_hour_104, c_h_trial_hoursOfMen_105, c_h_trial_parted_106, c_h_trial_pitch_107, c_h_trial_pitchTaken_108, c_h_trial_water_109, c_h_trial_ta_whole_110))
  else
    k_b1 (p_X4_isLost c_h_trial_water_109) fun r112 =>
    if r112 = 0 then
      k_b1 (p_X3_bitsOf w_h_trial_se_size_20 c_h_trial_se_state_100 1) fun r114 =>
      if r114 = 0 then
        some (.inr (c_h_trial_se_done_99, c_h_trial_se_state_100, c_h_trial_boatUsed_101, c_h_trial_heel_102, c_h_trial_heelWent_103, c_h_trial_hour_104, c_h_trial_hoursOfMen_105, c_h_trial_parted_106, c_h_trial_pitch_107, c_h_trial_pitchTaken_108, c_h_trial_water_109, c_h_trial_ta_whole_110))
      else
        k_b1 (p_X3_bitsOf w_h_trial_se_size_20 c_h_trial_se_state_100 1) fun r116 =>
        k_b12 (p_X4_passHour c_h_trial_hour_104 c_h_trial_heel_102 c_h_trial_water_109 c_h_trial_pitch_107 c_h_trial_pitchTaken_108 c_h_trial_hoursOfMen_105 c_h_trial_parted_106 f_sr_rain w_h_trial_se_size_20 c_h_trial_se_state_100 f_sr_tide w_h_trial_se_strake_21 w_h_trial_se_side_22 f_sr_rules w_h_trial_th_out_11 w_h_trial_th_size_12 w_h_trial_th_weight_13 c_h_trial_ta_whole_110 w_h_trial_ta_size_16 w_h_trial_ta_parts_18 w_h_trial_ta_strength_19 w_h_trial_ta_mast_17 w_h_trial_se_hands_23 c_h_trial_se_done_99 w_h_trial_se_pitch_25 w_h_trial_se_hours_24 r116) fun w_h_trial_hour_117 w_h_trial_heel_118 w_h_trial_water_119 w_h_trial_pitch_120 w_h_trial_boatUsed_121 w_h_trial_heelWent_122 w_h_trial_pitchTaken_123 w_h_trial_hoursOfMen_124 w_h_trial_parted_125 w_h_trial_se_state_126 w_h_trial_ta_whole_127 w_h_trial_se_done_128 =>
        some (.inl (x2_98 + 1, w_h_trial_se_done_128, w_h_trial_se_state_126, w_h_trial_boatUsed_121, w_h_trial_heel_118, w_h_trial_heelWent_122, w_h_trial_hour_117, w_h_trial_hoursOfMen_124, w_h_trial_parted_125, w_h_trial_pitch_120, w_h_trial_pitchTaken_123, w_h_trial_water_119, w_h_trial_ta_whole_127))
    else
      some (.inr (c_h_trial_se_done_99, c_h_trial_se_state_100, c_h_trial_boatUsed_101, c_h_trial_heel_102, c_h_trial_heelWent_103, c_h_trial_hour_104, c_h_trial_hoursOfMen_105, c_h_trial_parted_106, c_h_trial_pitch_107, c_h_trial_pitchTaken_108, c_h_trial_water_109, c_h_trial_ta_whole_110))
def p_X0_isFound (v_h_hour : Int32) (v_h_things : Int32) (v_h_shut : Int32) (v_o1_hour : Int32) (v_o1_heel : Int32) (v_o1_water : Int32) (v_o1_pitch : Int32) (v_o1_boatUsed : Int32) (v_o1_heelWent : Int32) (v_o1_pitchTaken : Int32) (v_o1_hoursOfMen : Int32) (v_o1_parted : Int32) (v_o1_moved : Int32) (v_o1_th_out : Int32) (v_o1_th_size : Int32) (f_o1_th_weight : Nat → Int32) (f_h_trial_th_weight : Nat → Int32) (f_o1_th_under : Nat → Int32) (f_h_trial_th_under : Nat → Int32) (v_o1_ta_whole : Int32) (v_o1_ta_size : Int32) (f_o1_ta_mast : Nat → Int32) (f_h_trial_ta_mast : Nat → Int32) (f_o1_ta_parts : Nat → Int32) (f_h_trial_ta_parts : Nat → Int32) (f_o1_ta_strength : Nat → Int32) (f_h_trial_ta_strength : Nat → Int32) (v_o1_se_size : Int32) (f_o1_se_strake : Nat → Int32) (f_h_trial_se_strake : Nat → Int32) (f_o1_se_side : Nat → Int32) (f_h_trial_se_side : Nat → Int32) (f_o1_se_hands : Nat → Int32) (f_h_trial_se_hands : Nat → Int32) (f_o1_se_hours : Nat → Int32) (f_h_trial_se_hours : Nat → Int32) (f_o1_se_pitch : Nat → Int32) (f_h_trial_se_pitch : Nat → Int32) (f_o1_se_worth : Nat → Int32) (f_h_trial_se_worth : Nat → Int32) (f_o1_se_state : Nat → Int32) (f_h_trial_se_state : Nat → Int32) (f_o1_se_done : Nat → Int32) (f_h_trial_se_done : Nat → Int32) (f_sr_rain : Nat → Int32) (f_sr_tide : Nat → Int32) (f_sr_rules : Nat → Int32) : Option (Int32 × Int32 × Int32 × Int32 × Int32 × Int32 × Int32 × Int32 × Int32 × Int32 × Int32 × Int32 × Int32 × Int32 × Int32 × Int32 × (Nat → Int32) × (Nat → Int32) × Int32 × Int32 × (Nat → Int32) × (Nat → Int32) × (Nat → Int32) × Int32 × (Nat → Int32) × (Nat → Int32) × (Nat → Int32) × (Nat → Int32) × (Nat → Int32) × (Nat → Int32) × (Nat → Int32) × (Nat → Int32)) :=
  k_b28 (p_X4_copyFrom v_o1_hour v_o1_heel v_o1_water v_o1_pitch v_o1_boatUsed v_o1_heelWent v_o1_pitchTaken v_o1_hoursOfMen v_o1_parted v_o1_moved v_o1_th_out v_o1_th_size f_o1_th_weight f_h_trial_th_weight f_o1_th_under f_h_trial_th_under v_o1_ta_whole v_o1_ta_size f_o1_ta_mast f_h_trial_ta_mast f_o1_ta_parts f_h_trial_ta_parts f_o1_ta_strength f_h_trial_ta_strength v_o1_se_size f_o1_se_strake f_h_trial_se_strake f_o1_se_side f_h_trial_se_side f_o1_se_hands f_h_trial_se_hands f_o1_se_hours f_h_trial_se_hours f_o1_se_pitch f_h_trial_se_pitch f_o1_se_worth f_h_trial_se_worth f_o1_se_state f_h_trial_se_state f_o1_se_done f_h_trial_se_done) fun w_h_trial_hour_1 w_h_trial_heel_2 w_h_trial_water_3 w_h_trial_pitch_4 w_h_trial_boatUsed_5 w_h_trial_heelWent_6 w_h_trial_pitchTaken_7 w_h_trial_hoursOfMen_8 w_h_trial_parted_9 w_h_trial_moved_10 w_h_trial_th_out_11 w_h_trial_th_size_12 w_h_trial_th_weight_13 w_h_trial_th_under_14 w_h_trial_ta_whole_15 w_h_trial_ta_size_16 w_h_trial_ta_mast_17 w_h_trial_ta_parts_18 w_h_trial_ta_strength_19 w_h_trial_se_size_20 w_h_trial_se_strake_21 w_h_trial_se_side_22 w_h_trial_se_hands_23 w_h_trial_se_hours_24 w_h_trial_se_pitch_25 w_h_trial_se_worth_26 w_h_trial_se_state_27 w_h_trial_se_done_28 =>
  k_b12 (k_lp (fun s => lb_X0_isFound_13 w_h_trial_se_size_20 f_sr_rain f_sr_tide w_h_trial_se_strake_21 w_h_trial_se_side_22 f_sr_rules w_h_trial_th_out_11 w_h_trial_th_size_12 w_h_trial_th_weight_13 w_h_trial_ta_size_16 w_h_trial_ta_parts_18 w_h_trial_ta_strength_19 w_h_trial_ta_mast_17 w_h_trial_se_hands_23 w_h_trial_se_pitch_25 w_h_trial_se_hours_24 s.1 s.2.1 s.2.2.1 s.2.2.2.1 s.2.2.2.2.1 s.2.2.2.2.2.1 s.2.2.2.2.2.2.1 s.2.2.2.2.2.2.2.1 s.2.2.2.2.2.2.2.2.1 s.2.2.2.2.2.2.2.2.2.1 s.2.2.2.2.2.2.2.2.2.2.1 s.2.2.2.2.2.2.2.2.2.2.2.1 s.2.2.2.2.2.2.2.2.2.2.2.2) k_fuel (v_o1_hour, w_h_trial_se_done_28, w_h_trial_se_state_27, w_h_trial_boatUsed_5, w_h_trial_heel_2, w_h_trial_heelWent_6, w_h_trial_hour_1, w_h_trial_hoursOfMen_8, w_h_trial_parted_9, w_h_trial_pitch_4, w_h_trial_pitchTaken_7, w_h_trial_water_3, w_h_trial_ta_whole_15)) fun c_h_trial_se_done_79 c_h_trial_se_state_80 c_h_trial_boatUsed_81 c_h_trial_heel_82 c_h_trial_heelWent_83 c_h_trial_hour_84 c_h_trial_hoursOfMen_85 c_h_trial_parted_86 c_h_trial_pitch_87 c_h_trial_pitchTaken_88 c_h_trial_water_89 c_h_trial_ta_whole_90 =>
  k_b1 (p_X4_isLost c_h_trial_water_89) fun r91 =>
  if r91 = 0 then
    k_b1 (p_X3_bitsOf w_h_trial_se_size_20 c_h_trial_se_state_80 1) fun r93 =>
    if r93 = 0 then
      k_b2 (p_X0_findLeast v_h_things v_o1_hour f_sr_rules v_o1_th_out v_o1_th_size f_o1_th_weight f_o1_th_under f_sr_tide (c_h_trial_hour_84 + (if 0 ≤ c_h_trial_heel_82 then c_h_trial_heel_82 else 0 - c_h_trial_heel_82))) fun w_h_hour_95 w_h_things_96 =>
      if 96 ≤ w_h_hour_95 then
        some (0, w_h_hour_95, w_h_things_96, c_h_trial_hour_84, c_h_trial_hour_84, c_h_trial_heel_82, c_h_trial_water_89, c_h_trial_pitch_87, c_h_trial_boatUsed_81, c_h_trial_heelWent_83, c_h_trial_pitchTaken_88, c_h_trial_hoursOfMen_85, c_h_trial_parted_86, w_h_trial_moved_10, w_h_trial_th_out_11, w_h_trial_th_size_12, w_h_trial_th_weight_13, w_h_trial_th_under_14, c_h_trial_ta_whole_90, w_h_trial_ta_size_16, w_h_trial_ta_mast_17, w_h_trial_ta_parts_18, w_h_trial_ta_strength_19, w_h_trial_se_size_20, w_h_trial_se_strake_21, w_h_trial_se_side_22, w_h_trial_se_hands_23, w_h_trial_se_hours_24, w_h_trial_se_pitch_25, w_h_trial_se_worth_26, c_h_trial_se_state_80, c_h_trial_se_done_79)
      else
        some (1, w_h_hour_95, w_h_things_96, c_h_trial_hour_84, c_h_trial_hour_84, c_h_trial_heel_82, c_h_trial_water_89, c_h_trial_pitch_87, c_h_trial_boatUsed_81, c_h_trial_heelWent_83, c_h_trial_pitchTaken_88, c_h_trial_hoursOfMen_85, c_h_trial_parted_86, w_h_trial_moved_10, w_h_trial_th_out_11, w_h_trial_th_size_12, w_h_trial_th_weight_13, w_h_trial_th_under_14, c_h_trial_ta_whole_90, w_h_trial_ta_size_16, w_h_trial_ta_mast_17, w_h_trial_ta_parts_18, w_h_trial_ta_strength_19, w_h_trial_se_size_20, w_h_trial_se_strake_21, w_h_trial_se_side_22, w_h_trial_se_hands_23, w_h_trial_se_hours_24, w_h_trial_se_pitch_25, w_h_trial_se_worth_26, c_h_trial_se_state_80, c_h_trial_se_done_79)
    else
      some (0, v_h_hour, v_h_things, v_h_shut, c_h_trial_hour_84, c_h_trial_heel_82, c_h_trial_water_89, c_h_trial_pitch_87, c_h_trial_boatUsed_81, c_h_trial_heelWent_83, c_h_trial_pitchTaken_88, c_h_trial_hoursOfMen_85, c_h_trial_parted_86, w_h_trial_moved_10, w_h_trial_th_out_11, w_h_trial_th_size_12, w_h_trial_th_weight_13, w_h_trial_th_under_14, c_h_trial_ta_whole_90, w_h_trial_ta_size_16, w_h_trial_ta_mast_17, w_h_trial_ta_parts_18, w_h_trial_ta_strength_19, w_h_trial_se_size_20, w_h_trial_se_strake_21, w_h_trial_se_side_22, w_h_trial_se_hands_23, w_h_trial_se_hours_24, w_h_trial_se_pitch_25, w_h_trial_se_worth_26, c_h_trial_se_state_80, c_h_trial_se_done_79)
  else
    some (0, v_h_hour, v_h_things, v_h_shut, c_h_trial_hour_84, c_h_trial_heel_82, c_h_trial_water_89, c_h_trial_pitch_87, c_h_trial_boatUsed_81, c_h_trial_heelWent_83, c_h_trial_pitchTaken_88, c_h_trial_hoursOfMen_85, c_h_trial_parted_86, w_h_trial_moved_10, w_h_trial_th_out_11, w_h_trial_th_size_12, w_h_trial_th_weight_13, w_h_trial_th_under_14, c_h_trial_ta_whole_90, w_h_trial_ta_size_16, w_h_trial_ta_mast_17, w_h_trial_ta_parts_18, w_h_trial_ta_strength_19, w_h_trial_se_size_20, w_h_trial_se_strake_21, w_h_trial_se_side_22, w_h_trial_se_hands_23, w_h_trial_se_hours_24, w_h_trial_se_pitch_25, w_h_trial_se_worth_26, c_h_trial_se_state_80, c_h_trial_se_done_79)
def p_X8_tide (f_sr_tide : Nat → Int32) (a1 : Int32) (a2 : Int32) : Option (Int32 × (Nat → Int32)) :=
  k_b1 (p_X8_within a1 0 95) fun r1 =>
  if r1 = 0 then
    some ((-1), f_sr_tide)
  else
    k_b1 (p_X8_within a2 0 60) fun r3 =>
    if r3 = 0 then
      some ((-1), f_sr_tide)
    else
      k_ix a1 96 (
        k_ix a1 96 (
          some (f_sr_tide a1.toNatClampNeg, upd f_sr_tide a1.toNatClampNeg a2)))
def lb_X8_tides_41 (a2 : Int32) (a3 : Int64) (a1 : Int32) (x5_18 : Int32) (c_sr_tide_19 : Nat → Int32) : Option ((Int32 × (Nat → Int32)) ⊕ ((Nat → Int32))) :=
  if a2 ≤ x5_18 then
    some (.inr c_sr_tide_19)
  else
    k_b1 (p_X8_eightBits a3 x5_18) fun r21 =>
    k_ix (a1 + x5_18) 96 (
      some (.inl (x5_18 + 1, upd c_sr_tide_19 (a1 + x5_18).toNatClampNeg r21)))
def p_X8_tides (f_sr_tide : Nat → Int32) (a1 : Int32) (a2 : Int32) (a3 : Int64) : Option (Int32 × (Nat → Int32)) :=
  k_b1 (p_X8_within a1 0 95) fun r1 =>
  if r1 = 0 then
    some ((-1), f_sr_tide)
  else
    k_b1 (p_X8_within a2 1 8) fun r3 =>
    if r3 = 0 then
      some ((-1), f_sr_tide)
    else
      if 96 < (a1 + a2) then
        some ((-1), f_sr_tide)
      else
        k_b1 (p_X8_areTides a2 a3) fun r6 =>
        if r6 = 0 then
          some ((-1), f_sr_tide)
        else
          k_b1 (k_lp (fun s => lb_X8_tides_41 a2 a3 a1 s.1 s.2) k_fuel (0, f_sr_tide)) fun c_sr_tide_17 =>
          some (a2, c_sr_tide_17)
def p_X8_rain (f_sr_rain : Nat → Int32) (a1 : Int32) (a2 : Int32) : Option (Int32 × (Nat → Int32)) :=
  k_b1 (p_X8_within a1 0 95) fun r1 =>
  if r1 = 0 then
    some ((-1), f_sr_rain)
  else
    k_ix a1 96 (
      k_ix a1 96 (
        k_b1 (p_X8_asNumber (f_sr_rain a1.toNatClampNeg)) fun r5 =>
        some (r5, upd f_sr_rain a1.toNatClampNeg (vp_nar .boolean a2))))
def p_X8_thing (v_h_now_th_out : Int32) (v_h_now_th_size : Int32) (f_h_now_th_weight : Nat → Int32) (f_h_now_th_under : Nat → Int32) (a1 : Int32) (a2 : Int32) : Option (Int32 × Int32 × (Nat → Int32) × (Nat → Int32)) :=
  k_b1 (p_X8_within a1 1 100) fun r1 =>
  if r1 = 0 then
    some ((-1), v_h_now_th_size, f_h_now_th_weight, f_h_now_th_under)
  else
    k_b1 (p_X8_within a2 (-1) (v_h_now_th_size - 1)) fun r3 =>
    if r3 = 0 then
      some ((-1), v_h_now_th_size, f_h_now_th_weight, f_h_now_th_under)
    else
      if a2 < 0 then
        if v_h_now_th_size < 12 then
          k_b4 (p_X7_add v_h_now_th_size f_h_now_th_weight f_h_now_th_under a1 a2) fun r7 w_h_now_th_size_8 w_h_now_th_weight_9 w_h_now_th_under_10 =>
          some (r7, w_h_now_th_size_8, w_h_now_th_weight_9, w_h_now_th_under_10)
        else
          some ((-3), v_h_now_th_size, f_h_now_th_weight, f_h_now_th_under)
      else
        k_b1 (p_X8_hasBit v_h_now_th_out a2) fun r11 =>
        if r11 = 0 then
          if v_h_now_th_size < 12 then
            k_b4 (p_X7_add v_h_now_th_size f_h_now_th_weight f_h_now_th_under a1 a2) fun r14 w_h_now_th_size_15 w_h_now_th_weight_16 w_h_now_th_under_17 =>
            some (r14, w_h_now_th_size_15, w_h_now_th_weight_16, w_h_now_th_under_17)
          else
            some ((-3), v_h_now_th_size, f_h_now_th_weight, f_h_now_th_under)
        else
          some ((-2), v_h_now_th_size, f_h_now_th_weight, f_h_now_th_under)
def p_X8_tackle (v_h_now_ta_whole : Int32) (v_h_now_ta_size : Int32) (f_h_now_ta_mast : Nat → Int32) (f_h_now_ta_parts : Nat → Int32) (f_h_now_ta_strength : Nat → Int32) (a1 : Int32) (a2 : Int32) (a3 : Int32) : Option (Int32 × Int32 × Int32 × (Nat → Int32) × (Nat → Int32) × (Nat → Int32)) :=
  k_b1 (p_X8_within a1 0 2) fun r1 =>
  if r1 = 0 then
    some ((-1), v_h_now_ta_whole, v_h_now_ta_size, f_h_now_ta_mast, f_h_now_ta_parts, f_h_now_ta_strength)
  else
    k_b1 (p_X8_within a2 1 6) fun r3 =>
    if r3 = 0 then
      some ((-1), v_h_now_ta_whole, v_h_now_ta_size, f_h_now_ta_mast, f_h_now_ta_parts, f_h_now_ta_strength)
    else
      k_b1 (p_X8_within a3 1 400) fun r5 =>
      if r5 = 0 then
        some ((-1), v_h_now_ta_whole, v_h_now_ta_size, f_h_now_ta_mast, f_h_now_ta_parts, f_h_now_ta_strength)
      else
        if v_h_now_ta_size < 6 then
          k_b6 (p_X6_add v_h_now_ta_whole v_h_now_ta_size f_h_now_ta_mast f_h_now_ta_parts f_h_now_ta_strength a1 a2 a3) fun r8 w_h_now_ta_whole_9 w_h_now_ta_size_10 w_h_now_ta_mast_11 w_h_now_ta_parts_12 w_h_now_ta_strength_13 =>
          some (r8, w_h_now_ta_whole_9, w_h_now_ta_size_10, w_h_now_ta_mast_11, w_h_now_ta_parts_12, w_h_now_ta_strength_13)
        else
          some ((-3), v_h_now_ta_whole, v_h_now_ta_size, f_h_now_ta_mast, f_h_now_ta_parts, f_h_now_ta_strength)
def p_X8_seam (v_h_now_se_size : Int32) (f_h_now_se_strake : Nat → Int32) (f_h_now_se_side : Nat → Int32) (f_h_now_se_hands : Nat → Int32) (f_h_now_se_hours : Nat → Int32) (f_h_now_se_pitch : Nat → Int32) (f_h_now_se_worth : Nat → Int32) (f_h_now_se_state : Nat → Int32) (f_h_now_se_done : Nat → Int32) (a1 : Int32) (a2 : Int32) (a3 : Int32) (a4 : Int32) (a5 : Int32) (a6 : Int32) : Option (Int32 × Int32 × (Nat → Int32) × (Nat → Int32) × (Nat → Int32) × (Nat → Int32) × (Nat → Int32) × (Nat → Int32) × (Nat → Int32) × (Nat → Int32)) :=
  k_b1 (p_X8_within a1 1 10) fun r1 =>
  if r1 = 0 then
    some ((-1), v_h_now_se_size, f_h_now_se_strake, f_h_now_se_side, f_h_now_se_hands, f_h_now_se_hours, f_h_now_se_pitch, f_h_now_se_worth, f_h_now_se_state, f_h_now_se_done)
  else
    k_b1 (p_X8_within a2 0 1) fun r3 =>
    if r3 = 0 then
      some ((-1), v_h_now_se_size, f_h_now_se_strake, f_h_now_se_side, f_h_now_se_hands, f_h_now_se_hours, f_h_now_se_pitch, f_h_now_se_worth, f_h_now_se_state, f_h_now_se_done)
    else
      k_b1 (p_X8_within a3 1 6) fun r5 =>
      if r5 = 0 then
        some ((-1), v_h_now_se_size, f_h_now_se_strake, f_h_now_se_side, f_h_now_se_hands, f_h_now_se_hours, f_h_now_se_pitch, f_h_now_se_worth, f_h_now_se_state, f_h_now_se_done)
      else
        k_b1 (p_X8_within a4 1 4) fun r7 =>
        if r7 = 0 then
          some ((-1), v_h_now_se_size, f_h_now_se_strake, f_h_now_se_side, f_h_now_se_hands, f_h_now_se_hours, f_h_now_se_pitch, f_h_now_se_worth, f_h_now_se_state, f_h_now_se_done)
        else
          k_b1 (p_X8_within a5 0 50) fun r9 =>
          if r9 = 0 then
            some ((-1), v_h_now_se_size, f_h_now_se_strake, f_h_now_se_side, f_h_now_se_hands, f_h_now_se_hours, f_h_now_se_pitch, f_h_now_se_worth, f_h_now_se_state, f_h_now_se_done)
          else
            k_b1 (p_X8_within a6 1 100) fun r11 =>
            if r11 = 0 then
              some ((-1), v_h_now_se_size, f_h_now_se_strake, f_h_now_se_side, f_h_now_se_hands, f_h_now_se_hours, f_h_now_se_pitch, f_h_now_se_worth, f_h_now_se_state, f_h_now_se_done)
            else
              if v_h_now_se_size < 12 then
                k_b10 (p_X3_add v_h_now_se_size f_h_now_se_strake f_h_now_se_side f_h_now_se_hands f_h_now_se_hours f_h_now_se_pitch f_h_now_se_worth f_h_now_se_state f_h_now_se_done a1 a2 a3 a4 a5 a6) fun r14 w_h_now_se_size_15 w_h_now_se_strake_16 w_h_now_se_side_17 w_h_now_se_hands_18 w_h_now_se_hours_19 w_h_now_se_pitch_20 w_h_now_se_worth_21 w_h_now_se_state_22 w_h_now_se_done_23 =>
                some (r14, w_h_now_se_size_15, w_h_now_se_strake_16, w_h_now_se_side_17, w_h_now_se_hands_18, w_h_now_se_hours_19, w_h_now_se_pitch_20, w_h_now_se_worth_21, w_h_now_se_state_22, w_h_now_se_done_23)
              else
                some ((-3), v_h_now_se_size, f_h_now_se_strake, f_h_now_se_side, f_h_now_se_hands, f_h_now_se_hours, f_h_now_se_pitch, f_h_now_se_worth, f_h_now_se_state, f_h_now_se_done)
def p_X8_ship (v_h_now_hour : Int32) (v_h_now_heel : Int32) (v_h_now_water : Int32) (f_sr_rules : Nat → Int32) (v_h_now_th_out : Int32) (v_h_now_th_size : Int32) (f_h_now_th_weight : Nat → Int32) (f_sr_tide : Nat → Int32) (v_h_now_se_size : Int32) (f_h_now_se_state : Nat → Int32) (f_sr_rain : Nat → Int32) (v_h_now_ta_whole : Int32) (v_h_now_ta_size : Int32) (f_h_now_ta_parts : Nat → Int32) (f_h_now_ta_strength : Nat → Int32) (f_h_now_ta_mast : Nat → Int32) (a1 : Int32) : Option (Int32) :=
  if a1 = 0 then
    k_b1 (p_X4_total f_sr_rules v_h_now_th_out v_h_now_th_size f_h_now_th_weight) fun r2 =>
    some r2
  else
  if a1 = 1 then
    k_b1 (p_X4_total f_sr_rules v_h_now_th_out v_h_now_th_size f_h_now_th_weight) fun r4 =>
    k_b1 (p_X8_draught r4) fun r5 =>
    some r5
  else
  if a1 = 2 then
    some v_h_now_heel
  else
  if a1 = 3 then
    k_b1 (p_X4_force f_sr_rules v_h_now_th_out v_h_now_th_size f_h_now_th_weight v_h_now_heel) fun r8 =>
    some r8
  else
  if a1 = 4 then
    some v_h_now_water
  else
  if a1 = 5 then
    k_b1 (p_X4_floats v_h_now_hour v_h_now_heel f_sr_rules v_h_now_th_out v_h_now_th_size f_h_now_th_weight f_sr_tide v_h_now_se_size f_h_now_se_state) fun r11 =>
    k_b1 (p_X8_asNumber r11) fun r12 =>
    some r12
  else
  if a1 = 6 then
    k_b1 (p_X5_rainsIn f_sr_rain v_h_now_hour) fun r14 =>
    k_b1 (p_X4_holds f_sr_rules v_h_now_th_out v_h_now_th_size f_h_now_th_weight v_h_now_ta_whole v_h_now_ta_size f_h_now_ta_parts f_h_now_ta_strength f_h_now_ta_mast v_h_now_heel r14) fun r15 =>
    k_b1 (p_X8_asNumber r15) fun r16 =>
    some r16
  else
  if a1 = 7 then
    k_b1 (p_X4_isLost v_h_now_water) fun r18 =>
    k_b1 (p_X8_asNumber r18) fun r19 =>
    some r19
  else
    some (-100)
def lb_X8_greatest_3 (f_sr_rules : Nat → Int32) (v_h_now_th_out : Int32) (v_h_now_th_size : Int32) (f_h_now_th_weight : Nat → Int32) (v_h_now_ta_whole : Int32) (v_h_now_ta_size : Int32) (f_h_now_ta_parts : Nat → Int32) (f_h_now_ta_strength : Nat → Int32) (f_h_now_ta_mast : Nat → Int32) (a1 : Int32) (x2_9 : Int32) : Option ((Int32) ⊕ (Int32)) :=
  if x2_9 ≤ 0 then
    some (.inr x2_9)
  else
    k_b1 (p_X4_holds f_sr_rules v_h_now_th_out v_h_now_th_size f_h_now_th_weight v_h_now_ta_whole v_h_now_ta_size f_h_now_ta_parts f_h_now_ta_strength f_h_now_ta_mast x2_9 a1) fun r11 =>
    if r11 = 0 then
      some (.inl (x2_9 + (-1)))
    else
      some (.inr x2_9)
def p_X8_greatest (f_sr_rules : Nat → Int32) (v_h_now_th_out : Int32) (v_h_now_th_size : Int32) (f_h_now_th_weight : Nat → Int32) (v_h_now_ta_whole : Int32) (v_h_now_ta_size : Int32) (f_h_now_ta_parts : Nat → Int32) (f_h_now_ta_strength : Nat → Int32) (f_h_now_ta_mast : Nat → Int32) (a1 : Int32) : Option (Int32) :=
  k_b1 (k_lp (fun s => lb_X8_greatest_3 f_sr_rules v_h_now_th_out v_h_now_th_size f_h_now_th_weight v_h_now_ta_whole v_h_now_ta_size f_h_now_ta_parts f_h_now_ta_strength f_h_now_ta_mast a1 s) k_fuel 9) fun x2_8 =>
  some x2_8
def p_X8_seamTold (v_h_now_hour : Int32) (v_h_now_heel : Int32) (v_h_now_se_size : Int32) (f_h_now_se_state : Nat → Int32) (f_sr_tide : Nat → Int32) (f_h_now_se_strake : Nat → Int32) (f_h_now_se_side : Nat → Int32) (f_h_now_se_done : Nat → Int32) (a1 : Int32) (a2 : Int32) : Option (Int32) :=
  k_b1 (p_X8_within a1 0 (v_h_now_se_size - 1)) fun r1 =>
  if r1 = 0 then
    some (-1)
  else
    if a2 = 0 then
      k_ix a1 12 (
        some (f_h_now_se_state a1.toNatClampNeg))
    else
    if a2 = 1 then
      k_b1 (p_X4_isBare v_h_now_heel f_sr_tide f_h_now_se_strake f_h_now_se_side a1 v_h_now_hour) fun r6 =>
      k_b1 (p_X8_asNumber r6) fun r7 =>
      some r7
    else
    if a2 = 2 then
      k_ix a1 12 (
        some (f_h_now_se_done a1.toNatClampNeg))
    else
    if a2 = 3 then
      k_b1 (p_X4_hoursBare v_h_now_hour v_h_now_heel f_sr_tide f_h_now_se_strake f_h_now_se_side a1) fun r11 =>
      some r11
    else
      some (-1)
def p_X8_tap (f_h_planks_tapped : Nat → Int32) (a1 : Int32) (a2 : Int32) : Option (Int32 × (Nat → Int32)) :=
  k_b1 (p_X8_within a1 0 29) fun r1 =>
  if r1 = 0 then
    some ((-100), f_h_planks_tapped)
  else
    k_b1 (p_X8_within a2 (-1) 1) fun r3 =>
    if r3 = 0 then
      some ((-100), f_h_planks_tapped)
    else
      k_ix a1 30 (
        k_ix a1 30 (
          some (f_h_planks_tapped a1.toNatClampNeg, upd f_h_planks_tapped a1.toNatClampNeg a2)))
def p_X8_worm (f_h_planks_tapped : Nat → Int32) (a1 : Int32) (a2 : Int32) : Option (Int32) :=
  k_b1 (p_X8_within a1 1 30) fun r1 =>
  if r1 = 0 then
    some (-1)
  else
    if a2 = 0 then
      k_b1 (p_X1_least f_h_planks_tapped a1) fun r4 =>
      some r4
    else
    if a2 = 1 then
      k_b1 (p_X1_most f_h_planks_tapped a1) fun r6 =>
      some r6
    else
    if a2 = 2 then
      k_b1 (p_X1_leastRuns f_h_planks_tapped a1) fun r8 =>
      some r8
    else
    if a2 = 3 then
      k_b1 (p_X1_mostRuns f_h_planks_tapped a1) fun r10 =>
      some r10
    else
      some (-1)
def p_X8_book (v_h_now_pitch : Int32) (v_h_now_pitchTaken : Int32) (v_h_now_hoursOfMen : Int32) (v_h_now_parted : Int32) (v_h_now_moved : Int32) (v_h_now_se_size : Int32) (f_h_now_se_state : Nat → Int32) (f_h_now_se_worth : Nat → Int32) (a1 : Int32) : Option (Int32) :=
  if a1 = 0 then
    some v_h_now_pitchTaken
  else
  if a1 = 1 then
    some v_h_now_hoursOfMen
  else
  if a1 = 2 then
    some v_h_now_parted
  else
  if a1 = 3 then
    some v_h_now_moved
  else
  if a1 = 4 then
    k_b1 (p_X3_worthTight v_h_now_se_size f_h_now_se_state f_h_now_se_worth) fun r6 =>
    some r6
  else
  if a1 = 5 then
    some v_h_now_pitch
  else
    some (-1)
def p_X8_count (v_h_keptSize : Int32) (v_h_now_hour : Int32) (v_h_now_th_out : Int32) (v_h_now_th_size : Int32) (v_h_now_ta_whole : Int32) (v_h_now_ta_size : Int32) (v_h_now_se_size : Int32) (f_h_now_se_state : Nat → Int32) (a1 : Int32) : Option (Int32) :=
  if a1 = 0 then
    some v_h_now_th_size
  else
  if a1 = 1 then
    k_b1 (p_J6_bitCount_0f7a4 v_h_now_th_out) fun r3 =>
    some (v_h_now_th_size - r3)
  else
  if a1 = 2 then
    some v_h_now_ta_size
  else
  if a1 = 3 then
    k_b1 (p_J6_bitCount_0f7a4 v_h_now_ta_whole) fun r6 =>
    some r6
  else
  if a1 = 4 then
    some v_h_now_se_size
  else
  if a1 = 5 then
    k_b1 (p_X3_bitsOf v_h_now_se_size f_h_now_se_state 1) fun r9 =>
    k_b1 (p_J6_bitCount_0f7a4 r9) fun r10 =>
    some r10
  else
  if a1 = 6 then
    k_b1 (p_X3_bitsOf v_h_now_se_size f_h_now_se_state 2) fun r12 =>
    k_b1 (p_J6_bitCount_0f7a4 r12) fun r13 =>
    some r13
  else
  if a1 = 7 then
    some v_h_now_hour
  else
  if a1 = 8 then
    some v_h_keptSize
  else
    some (-1)
def p_X8_tackleTold (v_h_now_hour : Int32) (v_h_now_heel : Int32) (v_h_now_ta_whole : Int32) (v_h_now_ta_size : Int32) (f_sr_rules : Nat → Int32) (v_h_now_th_out : Int32) (v_h_now_th_size : Int32) (f_h_now_th_weight : Nat → Int32) (f_h_now_ta_parts : Nat → Int32) (f_sr_rain : Nat → Int32) (f_h_now_ta_strength : Nat → Int32) (a1 : Int32) (a2 : Int32) : Option (Int32) :=
  k_b1 (p_X8_within a1 0 (v_h_now_ta_size - 1)) fun r1 =>
  if r1 = 0 then
    some (-1)
  else
    k_b1 (p_X8_within a2 0 3) fun r3 =>
    if r3 = 0 then
      some (-1)
    else
      k_b1 (p_X8_hasBit v_h_now_ta_whole a1) fun r5 =>
      if r5 = 0 then
        some 0
      else
        k_b1 (p_X4_force f_sr_rules v_h_now_th_out v_h_now_th_size f_h_now_th_weight v_h_now_heel) fun r7 =>
        k_b1 (p_X6_share v_h_now_ta_whole r7) fun r8 =>
        if a2 = 0 then
          some r8
        else
        if a2 = 1 then
          k_b1 (p_X6_ropeTakes f_h_now_ta_parts a1 r8) fun r11 =>
          some r11
        else
        if a2 = 2 then
          k_b1 (p_X5_rainsIn f_sr_rain v_h_now_hour) fun r13 =>
          k_b1 (p_X6_ropeMay f_h_now_ta_strength a1 r13) fun r14 =>
          some r14
        else
          some 1
def p_X8_move (v_h_now_water : Int32) (v_h_now_boatUsed : Int32) (v_h_now_moved : Int32) (v_h_now_th_out : Int32) (v_h_now_th_size : Int32) (f_h_now_th_under : Nat → Int32) (f_sr_rules : Nat → Int32) (f_h_now_th_weight : Nat → Int32) (a1 : Int32) : Option (Int32 × Int32 × Int32 × Int32) :=
  k_b1 (p_X8_within a1 0 (v_h_now_th_size - 1)) fun r1 =>
  if r1 = 0 then
    some ((-1), v_h_now_boatUsed, v_h_now_moved, v_h_now_th_out)
  else
    if v_h_now_boatUsed = 0 then
      k_b1 (p_X4_isLost v_h_now_water) fun r4 =>
      if r4 = 0 then
        k_b1 (p_X7_mayMove v_h_now_th_out v_h_now_th_size f_h_now_th_under a1) fun r6 =>
        if r6 = 0 then
          some ((-2), v_h_now_boatUsed, v_h_now_moved, v_h_now_th_out)
        else
          k_b3 (p_X4_moveByBoat v_h_now_moved v_h_now_th_out a1) fun w_h_now_boatUsed_8 w_h_now_moved_9 w_h_now_th_out_10 =>
          k_b1 (p_X4_total f_sr_rules w_h_now_th_out_10 v_h_now_th_size f_h_now_th_weight) fun r11 =>
          some (r11, w_h_now_boatUsed_8, w_h_now_moved_9, w_h_now_th_out_10)
      else
        some ((-2), v_h_now_boatUsed, v_h_now_moved, v_h_now_th_out)
    else
      some ((-2), v_h_now_boatUsed, v_h_now_moved, v_h_now_th_out)
def p_X8_heel (v_h_now_hour : Int32) (v_h_now_heel : Int32) (v_h_now_water : Int32) (v_h_now_heelWent : Int32) (f_sr_rain : Nat → Int32) (f_sr_rules : Nat → Int32) (v_h_now_th_out : Int32) (v_h_now_th_size : Int32) (f_h_now_th_weight : Nat → Int32) (v_h_now_ta_whole : Int32) (v_h_now_ta_size : Int32) (f_h_now_ta_parts : Nat → Int32) (f_h_now_ta_strength : Nat → Int32) (f_h_now_ta_mast : Nat → Int32) (a1 : Int32) : Option (Int32 × Int32 × Int32) :=
  if a1 = 1 then
    if v_h_now_heelWent = 0 then
      k_b1 (p_X4_isLost v_h_now_water) fun r3 =>
      if r3 = 0 then
        k_b1 (p_X8_within (v_h_now_heel + a1) (-9) 9) fun r5 =>
        if r5 = 0 then
          some ((-102), v_h_now_heel, v_h_now_heelWent)
        else
          k_b1 (p_X5_rainsIn f_sr_rain v_h_now_hour) fun r7 =>
          k_b1 (p_X4_holds f_sr_rules v_h_now_th_out v_h_now_th_size f_h_now_th_weight v_h_now_ta_whole v_h_now_ta_size f_h_now_ta_parts f_h_now_ta_strength f_h_now_ta_mast (v_h_now_heel + a1) r7) fun r8 =>
          if r8 = 0 then
            some ((-102), v_h_now_heel, v_h_now_heelWent)
          else
            some (v_h_now_heel + a1, v_h_now_heel + a1, 1)
      else
        some ((-102), v_h_now_heel, v_h_now_heelWent)
    else
      some ((-102), v_h_now_heel, v_h_now_heelWent)
  else
    if a1 = (-1) then
      if v_h_now_heelWent = 0 then
        k_b1 (p_X4_isLost v_h_now_water) fun r12 =>
        if r12 = 0 then
          k_b1 (p_X8_within (v_h_now_heel + a1) (-9) 9) fun r14 =>
          if r14 = 0 then
            some ((-102), v_h_now_heel, v_h_now_heelWent)
          else
            k_b1 (p_X5_rainsIn f_sr_rain v_h_now_hour) fun r16 =>
            k_b1 (p_X4_holds f_sr_rules v_h_now_th_out v_h_now_th_size f_h_now_th_weight v_h_now_ta_whole v_h_now_ta_size f_h_now_ta_parts f_h_now_ta_strength f_h_now_ta_mast (v_h_now_heel + a1) r16) fun r17 =>
            if r17 = 0 then
              some ((-102), v_h_now_heel, v_h_now_heelWent)
            else
              some (v_h_now_heel + a1, v_h_now_heel + a1, 1)
        else
          some ((-102), v_h_now_heel, v_h_now_heelWent)
      else
        some ((-102), v_h_now_heel, v_h_now_heelWent)
    else
      some ((-100), v_h_now_heel, v_h_now_heelWent)
def p_X8_hour (v_h_now_hour : Int32) (v_h_now_heel : Int32) (v_h_now_water : Int32) (v_h_now_pitch : Int32) (v_h_now_boatUsed : Int32) (v_h_now_heelWent : Int32) (v_h_now_pitchTaken : Int32) (v_h_now_hoursOfMen : Int32) (v_h_now_parted : Int32) (v_h_now_se_size : Int32) (f_sr_rain : Nat → Int32) (f_h_now_se_state : Nat → Int32) (f_sr_tide : Nat → Int32) (f_h_now_se_strake : Nat → Int32) (f_h_now_se_side : Nat → Int32) (f_sr_rules : Nat → Int32) (v_h_now_th_out : Int32) (v_h_now_th_size : Int32) (f_h_now_th_weight : Nat → Int32) (v_h_now_ta_whole : Int32) (v_h_now_ta_size : Int32) (f_h_now_ta_parts : Nat → Int32) (f_h_now_ta_strength : Nat → Int32) (f_h_now_ta_mast : Nat → Int32) (f_h_now_se_hands : Nat → Int32) (f_h_now_se_done : Nat → Int32) (f_h_now_se_pitch : Nat → Int32) (f_h_now_se_hours : Nat → Int32) (a1 : Int32) : Option (Int32 × Int32 × Int32 × Int32 × Int32 × Int32 × Int32 × Int32 × Int32 × Int32 × (Nat → Int32) × Int32 × (Nat → Int32)) :=
  if (((a1).toUInt32 >>> ((v_h_now_se_size).toUInt32 &&& Int32.toUInt32 31)).toInt32) = 0 then
    k_b1 (p_X4_isLost v_h_now_water) fun r2 =>
    if r2 = 0 then
      if v_h_now_hour < 96 then
        k_b12 (p_X4_passHour v_h_now_hour v_h_now_heel v_h_now_water v_h_now_pitch v_h_now_pitchTaken v_h_now_hoursOfMen v_h_now_parted f_sr_rain v_h_now_se_size f_h_now_se_state f_sr_tide f_h_now_se_strake f_h_now_se_side f_sr_rules v_h_now_th_out v_h_now_th_size f_h_now_th_weight v_h_now_ta_whole v_h_now_ta_size f_h_now_ta_parts f_h_now_ta_strength f_h_now_ta_mast f_h_now_se_hands f_h_now_se_done f_h_now_se_pitch f_h_now_se_hours a1) fun w_h_now_hour_5 w_h_now_heel_6 w_h_now_water_7 w_h_now_pitch_8 w_h_now_boatUsed_9 w_h_now_heelWent_10 w_h_now_pitchTaken_11 w_h_now_hoursOfMen_12 w_h_now_parted_13 w_h_now_se_state_14 w_h_now_ta_whole_15 w_h_now_se_done_16 =>
        some (w_h_now_water_7, w_h_now_hour_5, w_h_now_heel_6, w_h_now_water_7, w_h_now_pitch_8, w_h_now_boatUsed_9, w_h_now_heelWent_10, w_h_now_pitchTaken_11, w_h_now_hoursOfMen_12, w_h_now_parted_13, w_h_now_se_state_14, w_h_now_ta_whole_15, w_h_now_se_done_16)
      else
        some ((-2), v_h_now_hour, v_h_now_heel, v_h_now_water, v_h_now_pitch, v_h_now_boatUsed, v_h_now_heelWent, v_h_now_pitchTaken, v_h_now_hoursOfMen, v_h_now_parted, f_h_now_se_state, v_h_now_ta_whole, f_h_now_se_done)
    else
      some ((-2), v_h_now_hour, v_h_now_heel, v_h_now_water, v_h_now_pitch, v_h_now_boatUsed, v_h_now_heelWent, v_h_now_pitchTaken, v_h_now_hoursOfMen, v_h_now_parted, f_h_now_se_state, v_h_now_ta_whole, f_h_now_se_done)
  else
    some ((-1), v_h_now_hour, v_h_now_heel, v_h_now_water, v_h_now_pitch, v_h_now_boatUsed, v_h_now_heelWent, v_h_now_pitchTaken, v_h_now_hoursOfMen, v_h_now_parted, f_h_now_se_state, v_h_now_ta_whole, f_h_now_se_done)
def p_X8_rig (v_h_now_hour : Int32) (v_h_now_heel : Int32) (v_h_now_ta_whole : Int32) (v_h_now_ta_size : Int32) (f_sr_rain : Nat → Int32) (f_sr_rules : Nat → Int32) (v_h_now_th_out : Int32) (v_h_now_th_size : Int32) (f_h_now_th_weight : Nat → Int32) (f_h_now_ta_parts : Nat → Int32) (f_h_now_ta_strength : Nat → Int32) (f_h_now_ta_mast : Nat → Int32) (a1 : Int32) (a2 : Int32) : Option (Int32 × Int32) :=
  k_b1 (p_X8_within a1 0 (v_h_now_ta_size - 1)) fun r1 =>
  if r1 = 0 then
    some ((-1), v_h_now_ta_whole)
  else
    if a2 = 0 then
      k_b1 (p_X5_rainsIn f_sr_rain v_h_now_hour) fun r4 =>
      k_b1 (p_X4_holds f_sr_rules v_h_now_th_out v_h_now_th_size f_h_now_th_weight (v_h_now_ta_whole &&& ((1 <<< (a1 &&& 31)) ^^^ (-1))) v_h_now_ta_size f_h_now_ta_parts f_h_now_ta_strength f_h_now_ta_mast v_h_now_heel r4) fun r5 =>
      if r5 = 0 then
        some ((-2), v_h_now_ta_whole)
      else
        k_b1 (p_X8_hasBit v_h_now_ta_whole a1) fun r7 =>
        k_b1 (p_X8_asNumber r7) fun r8 =>
        some (r8, v_h_now_ta_whole &&& ((1 <<< (a1 &&& 31)) ^^^ (-1)))
    else
      k_b1 (p_X5_rainsIn f_sr_rain v_h_now_hour) fun r9 =>
      k_b1 (p_X4_holds f_sr_rules v_h_now_th_out v_h_now_th_size f_h_now_th_weight (v_h_now_ta_whole ||| (1 <<< (a1 &&& 31))) v_h_now_ta_size f_h_now_ta_parts f_h_now_ta_strength f_h_now_ta_mast v_h_now_heel r9) fun r10 =>
      if r10 = 0 then
        some ((-2), v_h_now_ta_whole)
      else
        k_b1 (p_X8_hasBit v_h_now_ta_whole a1) fun r12 =>
        k_b1 (p_X8_asNumber r12) fun r13 =>
        some (r13, v_h_now_ta_whole ||| (1 <<< (a1 &&& 31)))
def p_X8_mayPlan (v_h_now_hour : Int32) (v_h_now_water : Int32) (a1 : Int32) : Option (Int32) :=
  k_b1 (p_X4_isLost v_h_now_water) fun r1 =>
  if r1 = 0 then
    if 96 < (v_h_now_hour + a1) then
      some 0
    else
      some 1
  else
    some 0
noncomputable def p_X8_plan (v_h_now_hour : Int32) (v_h_now_heel : Int32) (v_h_now_water : Int32) (v_h_now_pitch : Int32) (v_h_now_se_size : Int32) (v_h_planner_menShort : Int64) (v_h_planner_size : Int32) (v_h_planner_planned : Int32) (v_h_planner_worth : Int32) (v_h_planner_pitch : Int32) (f_h_now_se_state : Nat → Int32) (f_h_planner_seam : Nat → Int32) (f_h_now_se_hours : Nat → Int32) (f_h_now_se_done : Nat → Int32) (f_h_planner_hours : Nat → Int32) (f_sr_rain : Nat → Int32) (f_sr_tide : Nat → Int32) (f_h_now_se_strake : Nat → Int32) (f_h_now_se_side : Nat → Int32) (f_h_planner_mayBegin : Nat → Int32) (f_h_planner_hands : Nat → Int64) (f_h_now_se_hands : Nat → Int32) (f_sr_rules : Nat → Int32) (f_h_now_se_pitch : Nat → Int32) (f_h_now_se_worth : Nat → Int32) (f_h_planner_tried : Nat → Int32) (f_h_planner_begins : Nat → Int32) (a1 : Int32) (a2 : Int32) : Option (Int32 × Int64 × Int32 × Int32 × Int32 × Int32 × (Nat → Int32) × (Nat → Int32) × (Nat → Int32) × (Nat → Int64) × (Nat → Int32) × (Nat → Int32)) :=
  k_b1 (p_X8_within a1 1 6) fun r1 =>
  if r1 = 0 then
    some ((-1), v_h_planner_menShort, v_h_planner_size, v_h_planner_planned, v_h_planner_worth, v_h_planner_pitch, f_h_planner_seam, f_h_planner_hours, f_h_planner_mayBegin, f_h_planner_hands, f_h_planner_tried, f_h_planner_begins)
  else
    k_b1 (p_X8_within a2 0 (2 + v_h_now_se_size)) fun r3 =>
    if r3 = 0 then
      some ((-1), v_h_planner_menShort, v_h_planner_size, v_h_planner_planned, v_h_planner_worth, v_h_planner_pitch, f_h_planner_seam, f_h_planner_hours, f_h_planner_mayBegin, f_h_planner_hands, f_h_planner_tried, f_h_planner_begins)
    else
      k_b1 (p_X8_mayPlan v_h_now_hour v_h_now_water a1) fun r5 =>
      if r5 = 0 then
        some ((-2), v_h_planner_menShort, v_h_planner_size, v_h_planner_planned, v_h_planner_worth, v_h_planner_pitch, f_h_planner_seam, f_h_planner_hours, f_h_planner_mayBegin, f_h_planner_hands, f_h_planner_tried, f_h_planner_begins)
      else
        k_b11 (p_X2_make v_h_now_hour v_h_now_heel v_h_now_pitch v_h_now_se_size f_h_now_se_state f_h_planner_seam f_h_now_se_hours f_h_now_se_done f_h_planner_hours f_sr_rain f_sr_tide f_h_now_se_strake f_h_now_se_side f_h_planner_mayBegin f_h_planner_hands f_h_now_se_hands f_sr_rules f_h_now_se_pitch f_h_now_se_worth f_h_planner_tried f_h_planner_begins a1) fun w_h_planner_menShort_7 w_h_planner_size_8 w_h_planner_planned_9 w_h_planner_worth_10 w_h_planner_pitch_11 w_h_planner_seam_12 w_h_planner_hours_13 w_h_planner_mayBegin_14 w_h_planner_hands_15 w_h_planner_tried_16 w_h_planner_begins_17 =>
        if a2 = 0 then
          some (w_h_planner_worth_10, w_h_planner_menShort_7, w_h_planner_size_8, w_h_planner_planned_9, w_h_planner_worth_10, w_h_planner_pitch_11, w_h_planner_seam_12, w_h_planner_hours_13, w_h_planner_mayBegin_14, w_h_planner_hands_15, w_h_planner_tried_16, w_h_planner_begins_17)
        else
        if a2 = 1 then
          some (w_h_planner_pitch_11, w_h_planner_menShort_7, w_h_planner_size_8, w_h_planner_planned_9, w_h_planner_worth_10, w_h_planner_pitch_11, w_h_planner_seam_12, w_h_planner_hours_13, w_h_planner_mayBegin_14, w_h_planner_hands_15, w_h_planner_tried_16, w_h_planner_begins_17)
        else
        if a2 = 2 then
          k_b1 (p_X2_seamBits w_h_planner_size_8 w_h_planner_planned_9 w_h_planner_seam_12) fun r21 =>
          some (r21, w_h_planner_menShort_7, w_h_planner_size_8, w_h_planner_planned_9, w_h_planner_worth_10, w_h_planner_pitch_11, w_h_planner_seam_12, w_h_planner_hours_13, w_h_planner_mayBegin_14, w_h_planner_hands_15, w_h_planner_tried_16, w_h_planner_begins_17)
        else
          k_b1 (p_X2_beginningOf w_h_planner_size_8 w_h_planner_planned_9 w_h_planner_seam_12 w_h_planner_begins_17 (a2 - 3)) fun r22 =>
          some (r22, w_h_planner_menShort_7, w_h_planner_size_8, w_h_planner_planned_9, w_h_planner_worth_10, w_h_planner_pitch_11, w_h_planner_seam_12, w_h_planner_hours_13, w_h_planner_mayBegin_14, w_h_planner_hands_15, w_h_planner_tried_16, w_h_planner_begins_17)
noncomputable def p_X8_orders (v_h_now_hour : Int32) (v_h_now_heel : Int32) (v_h_now_water : Int32) (v_h_now_pitch : Int32) (v_h_planner_menShort : Int64) (v_h_planner_size : Int32) (v_h_planner_planned : Int32) (v_h_planner_worth : Int32) (v_h_planner_pitch : Int32) (v_h_now_se_size : Int32) (f_h_now_se_state : Nat → Int32) (f_h_planner_seam : Nat → Int32) (f_h_now_se_hours : Nat → Int32) (f_h_now_se_done : Nat → Int32) (f_h_planner_hours : Nat → Int32) (f_sr_rain : Nat → Int32) (f_sr_tide : Nat → Int32) (f_h_now_se_strake : Nat → Int32) (f_h_now_se_side : Nat → Int32) (f_h_planner_mayBegin : Nat → Int32) (f_h_planner_hands : Nat → Int64) (f_h_now_se_hands : Nat → Int32) (f_sr_rules : Nat → Int32) (f_h_now_se_pitch : Nat → Int32) (f_h_now_se_worth : Nat → Int32) (f_h_planner_tried : Nat → Int32) (f_h_planner_begins : Nat → Int32) (a1 : Int32) (a2 : Int32) : Option (Int32 × Int64 × Int32 × Int32 × Int32 × Int32 × (Nat → Int32) × (Nat → Int32) × (Nat → Int32) × (Nat → Int64) × (Nat → Int32) × (Nat → Int32)) :=
  k_b1 (p_X8_within a1 1 6) fun r1 =>
  if r1 = 0 then
    some ((-1), v_h_planner_menShort, v_h_planner_size, v_h_planner_planned, v_h_planner_worth, v_h_planner_pitch, f_h_planner_seam, f_h_planner_hours, f_h_planner_mayBegin, f_h_planner_hands, f_h_planner_tried, f_h_planner_begins)
  else
    k_b1 (p_X8_within a2 0 (a1 - 1)) fun r3 =>
    if r3 = 0 then
      some ((-1), v_h_planner_menShort, v_h_planner_size, v_h_planner_planned, v_h_planner_worth, v_h_planner_pitch, f_h_planner_seam, f_h_planner_hours, f_h_planner_mayBegin, f_h_planner_hands, f_h_planner_tried, f_h_planner_begins)
    else
      k_b1 (p_X8_mayPlan v_h_now_hour v_h_now_water a1) fun r5 =>
      if r5 = 0 then
        some ((-2), v_h_planner_menShort, v_h_planner_size, v_h_planner_planned, v_h_planner_worth, v_h_planner_pitch, f_h_planner_seam, f_h_planner_hours, f_h_planner_mayBegin, f_h_planner_hands, f_h_planner_tried, f_h_planner_begins)
      else
        k_b11 (p_X2_make v_h_now_hour v_h_now_heel v_h_now_pitch v_h_now_se_size f_h_now_se_state f_h_planner_seam f_h_now_se_hours f_h_now_se_done f_h_planner_hours f_sr_rain f_sr_tide f_h_now_se_strake f_h_now_se_side f_h_planner_mayBegin f_h_planner_hands f_h_now_se_hands f_sr_rules f_h_now_se_pitch f_h_now_se_worth f_h_planner_tried f_h_planner_begins a1) fun w_h_planner_menShort_7 w_h_planner_size_8 w_h_planner_planned_9 w_h_planner_worth_10 w_h_planner_pitch_11 w_h_planner_seam_12 w_h_planner_hours_13 w_h_planner_mayBegin_14 w_h_planner_hands_15 w_h_planner_tried_16 w_h_planner_begins_17 =>
        k_b1 (p_X2_ordersOf w_h_planner_size_8 w_h_planner_planned_9 w_h_planner_begins_17 w_h_planner_hours_13 w_h_planner_seam_12 a2) fun r18 =>
        some (r18, w_h_planner_menShort_7, w_h_planner_size_8, w_h_planner_planned_9, w_h_planner_worth_10, w_h_planner_pitch_11, w_h_planner_seam_12, w_h_planner_hours_13, w_h_planner_mayBegin_14, w_h_planner_hands_15, w_h_planner_tried_16, w_h_planner_begins_17)
def p_X8_toFloat (v_h_now_hour : Int32) (v_h_now_heel : Int32) (v_h_now_water : Int32) (v_h_now_pitch : Int32) (v_h_now_boatUsed : Int32) (v_h_now_heelWent : Int32) (v_h_now_pitchTaken : Int32) (v_h_now_hoursOfMen : Int32) (v_h_now_parted : Int32) (v_h_now_moved : Int32) (v_h_now_th_out : Int32) (v_h_now_th_size : Int32) (v_h_floating_hour : Int32) (v_h_floating_things : Int32) (v_h_floating_shut : Int32) (v_h_floating_trial_hour : Int32) (v_h_floating_trial_heel : Int32) (v_h_floating_trial_water : Int32) (v_h_floating_trial_pitch : Int32) (v_h_floating_trial_boatUsed : Int32) (v_h_floating_trial_heelWent : Int32) (v_h_floating_trial_pitchTaken : Int32) (v_h_floating_trial_hoursOfMen : Int32) (v_h_floating_trial_parted : Int32) (v_h_floating_trial_moved : Int32) (v_h_floating_trial_th_out : Int32) (v_h_floating_trial_th_size : Int32) (f_h_now_th_weight : Nat → Int32) (f_h_floating_trial_th_weight : Nat → Int32) (f_h_now_th_under : Nat → Int32) (f_h_floating_trial_th_under : Nat → Int32) (v_h_floating_trial_ta_whole : Int32) (v_h_floating_trial_ta_size : Int32) (v_h_now_ta_whole : Int32) (v_h_now_ta_size : Int32) (f_h_now_ta_mast : Nat → Int32) (f_h_floating_trial_ta_mast : Nat → Int32) (f_h_now_ta_parts : Nat → Int32) (f_h_floating_trial_ta_parts : Nat → Int32) (f_h_now_ta_strength : Nat → Int32) (f_h_floating_trial_ta_strength : Nat → Int32) (v_h_floating_trial_se_size : Int32) (v_h_now_se_size : Int32) (f_h_now_se_strake : Nat → Int32) (f_h_floating_trial_se_strake : Nat → Int32) (f_h_now_se_side : Nat → Int32) (f_h_floating_trial_se_side : Nat → Int32) (f_h_now_se_hands : Nat → Int32) (f_h_floating_trial_se_hands : Nat → Int32) (f_h_now_se_hours : Nat → Int32) (f_h_floating_trial_se_hours : Nat → Int32) (f_h_now_se_pitch : Nat → Int32) (f_h_floating_trial_se_pitch : Nat → Int32) (f_h_now_se_worth : Nat → Int32) (f_h_floating_trial_se_worth : Nat → Int32) (f_h_now_se_state : Nat → Int32) (f_h_floating_trial_se_state : Nat → Int32) (f_h_now_se_done : Nat → Int32) (f_h_floating_trial_se_done : Nat → Int32) (f_sr_rain : Nat → Int32) (f_sr_tide : Nat → Int32) (f_sr_rules : Nat → Int32) (a1 : Int32) : Option (Int32 × Int32 × Int32 × Int32 × Int32 × Int32 × Int32 × Int32 × Int32 × Int32 × Int32 × Int32 × Int32 × Int32 × Int32 × Int32 × (Nat → Int32) × (Nat → Int32) × Int32 × Int32 × (Nat → Int32) × (Nat → Int32) × (Nat → Int32) × Int32 × (Nat → Int32) × (Nat → Int32) × (Nat → Int32) × (Nat → Int32) × (Nat → Int32) × (Nat → Int32) × (Nat → Int32) × (Nat → Int32)) :=
  k_b1 (p_X8_within a1 0 2) fun r1 =>
  if r1 = 0 then
    some ((-1), v_h_floating_hour, v_h_floating_things, v_h_floating_shut, v_h_floating_trial_hour, v_h_floating_trial_heel, v_h_floating_trial_water, v_h_floating_trial_pitch, v_h_floating_trial_boatUsed, v_h_floating_trial_heelWent, v_h_floating_trial_pitchTaken, v_h_floating_trial_hoursOfMen, v_h_floating_trial_parted, v_h_floating_trial_moved, v_h_floating_trial_th_out, v_h_floating_trial_th_size, f_h_floating_trial_th_weight, f_h_floating_trial_th_under, v_h_floating_trial_ta_whole, v_h_floating_trial_ta_size, f_h_floating_trial_ta_mast, f_h_floating_trial_ta_parts, f_h_floating_trial_ta_strength, v_h_floating_trial_se_size, f_h_floating_trial_se_strake, f_h_floating_trial_se_side, f_h_floating_trial_se_hands, f_h_floating_trial_se_hours, f_h_floating_trial_se_pitch, f_h_floating_trial_se_worth, f_h_floating_trial_se_state, f_h_floating_trial_se_done)
  else
    k_b1 (p_X4_isLost v_h_now_water) fun r3 =>
    if r3 = 0 then
      k_b1 (p_J6_bitCount_0f7a4 v_h_now_th_out) fun r5 =>
      if r5 ≤ 8 then
        k_b32 (p_X0_isFound v_h_floating_hour v_h_floating_things v_h_floating_shut v_h_now_hour v_h_now_heel v_h_now_water v_h_now_pitch v_h_now_boatUsed v_h_now_heelWent v_h_now_pitchTaken v_h_now_hoursOfMen v_h_now_parted v_h_now_moved v_h_now_th_out v_h_now_th_size f_h_now_th_weight f_h_floating_trial_th_weight f_h_now_th_under f_h_floating_trial_th_under v_h_now_ta_whole v_h_now_ta_size f_h_now_ta_mast f_h_floating_trial_ta_mast f_h_now_ta_parts f_h_floating_trial_ta_parts f_h_now_ta_strength f_h_floating_trial_ta_strength v_h_now_se_size f_h_now_se_strake f_h_floating_trial_se_strake f_h_now_se_side f_h_floating_trial_se_side f_h_now_se_hands f_h_floating_trial_se_hands f_h_now_se_hours f_h_floating_trial_se_hours f_h_now_se_pitch f_h_floating_trial_se_pitch f_h_now_se_worth f_h_floating_trial_se_worth f_h_now_se_state f_h_floating_trial_se_state f_h_now_se_done f_h_floating_trial_se_done f_sr_rain f_sr_tide f_sr_rules) fun r7 w_h_floating_hour_8 w_h_floating_things_9 w_h_floating_shut_10 w_h_floating_trial_hour_11 w_h_floating_trial_heel_12 w_h_floating_trial_water_13 w_h_floating_trial_pitch_14 w_h_floating_trial_boatUsed_15 w_h_floating_trial_heelWent_16 w_h_floating_trial_pitchTaken_17 w_h_floating_trial_hoursOfMen_18 w_h_floating_trial_parted_19 w_h_floating_trial_moved_20 w_h_floating_trial_th_out_21 w_h_floating_trial_th_size_22 w_h_floating_trial_th_weight_23 w_h_floating_trial_th_under_24 w_h_floating_trial_ta_whole_25 w_h_floating_trial_ta_size_26 w_h_floating_trial_ta_mast_27 w_h_floating_trial_ta_parts_28 w_h_floating_trial_ta_strength_29 w_h_floating_trial_se_size_30 w_h_floating_trial_se_strake_31 w_h_floating_trial_se_side_32 w_h_floating_trial_se_hands_33 w_h_floating_trial_se_hours_34 w_h_floating_trial_se_pitch_35 w_h_floating_trial_se_worth_36 w_h_floating_trial_se_state_37 w_h_floating_trial_se_done_38 =>
        if r7 = 0 then
          some ((-4), w_h_floating_hour_8, w_h_floating_things_9, w_h_floating_shut_10, w_h_floating_trial_hour_11, w_h_floating_trial_heel_12, w_h_floating_trial_water_13, w_h_floating_trial_pitch_14, w_h_floating_trial_boatUsed_15, w_h_floating_trial_heelWent_16, w_h_floating_trial_pitchTaken_17, w_h_floating_trial_hoursOfMen_18, w_h_floating_trial_parted_19, w_h_floating_trial_moved_20, w_h_floating_trial_th_out_21, w_h_floating_trial_th_size_22, w_h_floating_trial_th_weight_23, w_h_floating_trial_th_under_24, w_h_floating_trial_ta_whole_25, w_h_floating_trial_ta_size_26, w_h_floating_trial_ta_mast_27, w_h_floating_trial_ta_parts_28, w_h_floating_trial_ta_strength_29, w_h_floating_trial_se_size_30, w_h_floating_trial_se_strake_31, w_h_floating_trial_se_side_32, w_h_floating_trial_se_hands_33, w_h_floating_trial_se_hours_34, w_h_floating_trial_se_pitch_35, w_h_floating_trial_se_worth_36, w_h_floating_trial_se_state_37, w_h_floating_trial_se_done_38)
        else
          if a1 = 0 then
            some (w_h_floating_hour_8, w_h_floating_hour_8, w_h_floating_things_9, w_h_floating_shut_10, w_h_floating_trial_hour_11, w_h_floating_trial_heel_12, w_h_floating_trial_water_13, w_h_floating_trial_pitch_14, w_h_floating_trial_boatUsed_15, w_h_floating_trial_heelWent_16, w_h_floating_trial_pitchTaken_17, w_h_floating_trial_hoursOfMen_18, w_h_floating_trial_parted_19, w_h_floating_trial_moved_20, w_h_floating_trial_th_out_21, w_h_floating_trial_th_size_22, w_h_floating_trial_th_weight_23, w_h_floating_trial_th_under_24, w_h_floating_trial_ta_whole_25, w_h_floating_trial_ta_size_26, w_h_floating_trial_ta_mast_27, w_h_floating_trial_ta_parts_28, w_h_floating_trial_ta_strength_29, w_h_floating_trial_se_size_30, w_h_floating_trial_se_strake_31, w_h_floating_trial_se_side_32, w_h_floating_trial_se_hands_33, w_h_floating_trial_se_hours_34, w_h_floating_trial_se_pitch_35, w_h_floating_trial_se_worth_36, w_h_floating_trial_se_state_37, w_h_floating_trial_se_done_38)
          else
          if a1 = 1 then
            some (w_h_floating_things_9, w_h_floating_hour_8, w_h_floating_things_9, w_h_floating_shut_10, w_h_floating_trial_hour_11, w_h_floating_trial_heel_12, w_h_floating_trial_water_13, w_h_floating_trial_pitch_14, w_h_floating_trial_boatUsed_15, w_h_floating_trial_heelWent_16, w_h_floating_trial_pitchTaken_17, w_h_floating_trial_hoursOfMen_18, w_h_floating_trial_parted_19, w_h_floating_trial_moved_20, w_h_floating_trial_th_out_21, w_h_floating_trial_th_size_22, w_h_floating_trial_th_weight_23, w_h_floating_trial_th_under_24, w_h_floating_trial_ta_whole_25, w_h_floating_trial_ta_size_26, w_h_floating_trial_ta_mast_27, w_h_floating_trial_ta_parts_28, w_h_floating_trial_ta_strength_29, w_h_floating_trial_se_size_30, w_h_floating_trial_se_strake_31, w_h_floating_trial_se_side_32, w_h_floating_trial_se_hands_33, w_h_floating_trial_se_hours_34, w_h_floating_trial_se_pitch_35, w_h_floating_trial_se_worth_36, w_h_floating_trial_se_state_37, w_h_floating_trial_se_done_38)
          else
            some (w_h_floating_shut_10, w_h_floating_hour_8, w_h_floating_things_9, w_h_floating_shut_10, w_h_floating_trial_hour_11, w_h_floating_trial_heel_12, w_h_floating_trial_water_13, w_h_floating_trial_pitch_14, w_h_floating_trial_boatUsed_15, w_h_floating_trial_heelWent_16, w_h_floating_trial_pitchTaken_17, w_h_floating_trial_hoursOfMen_18, w_h_floating_trial_parted_19, w_h_floating_trial_moved_20, w_h_floating_trial_th_out_21, w_h_floating_trial_th_size_22, w_h_floating_trial_th_weight_23, w_h_floating_trial_th_under_24, w_h_floating_trial_ta_whole_25, w_h_floating_trial_ta_size_26, w_h_floating_trial_ta_mast_27, w_h_floating_trial_ta_parts_28, w_h_floating_trial_ta_strength_29, w_h_floating_trial_se_size_30, w_h_floating_trial_se_strake_31, w_h_floating_trial_se_side_32, w_h_floating_trial_se_hands_33, w_h_floating_trial_se_hours_34, w_h_floating_trial_se_pitch_35, w_h_floating_trial_se_worth_36, w_h_floating_trial_se_state_37, w_h_floating_trial_se_done_38)
      else
        some ((-2), v_h_floating_hour, v_h_floating_things, v_h_floating_shut, v_h_floating_trial_hour, v_h_floating_trial_heel, v_h_floating_trial_water, v_h_floating_trial_pitch, v_h_floating_trial_boatUsed, v_h_floating_trial_heelWent, v_h_floating_trial_pitchTaken, v_h_floating_trial_hoursOfMen, v_h_floating_trial_parted, v_h_floating_trial_moved, v_h_floating_trial_th_out, v_h_floating_trial_th_size, f_h_floating_trial_th_weight, f_h_floating_trial_th_under, v_h_floating_trial_ta_whole, v_h_floating_trial_ta_size, f_h_floating_trial_ta_mast, f_h_floating_trial_ta_parts, f_h_floating_trial_ta_strength, v_h_floating_trial_se_size, f_h_floating_trial_se_strake, f_h_floating_trial_se_side, f_h_floating_trial_se_hands, f_h_floating_trial_se_hours, f_h_floating_trial_se_pitch, f_h_floating_trial_se_worth, f_h_floating_trial_se_state, f_h_floating_trial_se_done)
    else
      some ((-2), v_h_floating_hour, v_h_floating_things, v_h_floating_shut, v_h_floating_trial_hour, v_h_floating_trial_heel, v_h_floating_trial_water, v_h_floating_trial_pitch, v_h_floating_trial_boatUsed, v_h_floating_trial_heelWent, v_h_floating_trial_pitchTaken, v_h_floating_trial_hoursOfMen, v_h_floating_trial_parted, v_h_floating_trial_moved, v_h_floating_trial_th_out, v_h_floating_trial_th_size, f_h_floating_trial_th_weight, f_h_floating_trial_th_under, v_h_floating_trial_ta_whole, v_h_floating_trial_ta_size, f_h_floating_trial_ta_mast, f_h_floating_trial_ta_parts, f_h_floating_trial_ta_strength, v_h_floating_trial_se_size, f_h_floating_trial_se_strake, f_h_floating_trial_se_side, f_h_floating_trial_se_hands, f_h_floating_trial_se_hours, f_h_floating_trial_se_pitch, f_h_floating_trial_se_worth, f_h_floating_trial_se_state, f_h_floating_trial_se_done)
def p_X8_keep_0 (v_h_now_hour : Int32) (v_h_now_heel : Int32) (v_h_now_water : Int32) (v_h_now_pitch : Int32) (v_h_now_boatUsed : Int32) (v_h_now_heelWent : Int32) (v_h_now_pitchTaken : Int32) (v_h_now_hoursOfMen : Int32) (v_h_now_parted : Int32) (v_h_now_moved : Int32) (v_h_now_th_out : Int32) (v_h_now_th_size : Int32) (f_h_now_th_weight : Nat → Int32) (f_k0_th_weight : Nat → Int32) (f_h_now_th_under : Nat → Int32) (f_k0_th_under : Nat → Int32) (v_h_now_ta_whole : Int32) (v_h_now_ta_size : Int32) (f_h_now_ta_mast : Nat → Int32) (f_k0_ta_mast : Nat → Int32) (f_h_now_ta_parts : Nat → Int32) (f_k0_ta_parts : Nat → Int32) (f_h_now_ta_strength : Nat → Int32) (f_k0_ta_strength : Nat → Int32) (v_h_now_se_size : Int32) (f_h_now_se_strake : Nat → Int32) (f_k0_se_strake : Nat → Int32) (f_h_now_se_side : Nat → Int32) (f_k0_se_side : Nat → Int32) (f_h_now_se_hands : Nat → Int32) (f_k0_se_hands : Nat → Int32) (f_h_now_se_hours : Nat → Int32) (f_k0_se_hours : Nat → Int32) (f_h_now_se_pitch : Nat → Int32) (f_k0_se_pitch : Nat → Int32) (f_h_now_se_worth : Nat → Int32) (f_k0_se_worth : Nat → Int32) (f_h_now_se_state : Nat → Int32) (f_k0_se_state : Nat → Int32) (f_h_now_se_done : Nat → Int32) (f_k0_se_done : Nat → Int32) : Option (Int32 × Int32 × Int32 × Int32 × Int32 × Int32 × Int32 × Int32 × Int32 × Int32 × Int32 × Int32 × Int32 × Int32 × (Nat → Int32) × (Nat → Int32) × Int32 × Int32 × (Nat → Int32) × (Nat → Int32) × (Nat → Int32) × Int32 × (Nat → Int32) × (Nat → Int32) × (Nat → Int32) × (Nat → Int32) × (Nat → Int32) × (Nat → Int32) × (Nat → Int32) × (Nat → Int32)) :=
  k_b28 (p_X4_copyFrom v_h_now_hour v_h_now_heel v_h_now_water v_h_now_pitch v_h_now_boatUsed v_h_now_heelWent v_h_now_pitchTaken v_h_now_hoursOfMen v_h_now_parted v_h_now_moved v_h_now_th_out v_h_now_th_size f_h_now_th_weight f_k0_th_weight f_h_now_th_under f_k0_th_under v_h_now_ta_whole v_h_now_ta_size f_h_now_ta_mast f_k0_ta_mast f_h_now_ta_parts f_k0_ta_parts f_h_now_ta_strength f_k0_ta_strength v_h_now_se_size f_h_now_se_strake f_k0_se_strake f_h_now_se_side f_k0_se_side f_h_now_se_hands f_k0_se_hands f_h_now_se_hours f_k0_se_hours f_h_now_se_pitch f_k0_se_pitch f_h_now_se_worth f_k0_se_worth f_h_now_se_state f_k0_se_state f_h_now_se_done f_k0_se_done) fun w_k0_hour_1 w_k0_heel_2 w_k0_water_3 w_k0_pitch_4 w_k0_boatUsed_5 w_k0_heelWent_6 w_k0_pitchTaken_7 w_k0_hoursOfMen_8 w_k0_parted_9 w_k0_moved_10 w_k0_th_out_11 w_k0_th_size_12 w_k0_th_weight_13 w_k0_th_under_14 w_k0_ta_whole_15 w_k0_ta_size_16 w_k0_ta_mast_17 w_k0_ta_parts_18 w_k0_ta_strength_19 w_k0_se_size_20 w_k0_se_strake_21 w_k0_se_side_22 w_k0_se_hands_23 w_k0_se_hours_24 w_k0_se_pitch_25 w_k0_se_worth_26 w_k0_se_state_27 w_k0_se_done_28 =>
  some (1, 1, w_k0_hour_1, w_k0_heel_2, w_k0_water_3, w_k0_pitch_4, w_k0_boatUsed_5, w_k0_heelWent_6, w_k0_pitchTaken_7, w_k0_hoursOfMen_8, w_k0_parted_9, w_k0_moved_10, w_k0_th_out_11, w_k0_th_size_12, w_k0_th_weight_13, w_k0_th_under_14, w_k0_ta_whole_15, w_k0_ta_size_16, w_k0_ta_mast_17, w_k0_ta_parts_18, w_k0_ta_strength_19, w_k0_se_size_20, w_k0_se_strake_21, w_k0_se_side_22, w_k0_se_hands_23, w_k0_se_hours_24, w_k0_se_pitch_25, w_k0_se_worth_26, w_k0_se_state_27, w_k0_se_done_28)
def p_X8_back_0  : Option (Int32 × Int32) :=
  some ((-2), 0)
def p_X8_keep_1 (v_h_now_hour : Int32) (v_h_now_heel : Int32) (v_h_now_water : Int32) (v_h_now_pitch : Int32) (v_h_now_boatUsed : Int32) (v_h_now_heelWent : Int32) (v_h_now_pitchTaken : Int32) (v_h_now_hoursOfMen : Int32) (v_h_now_parted : Int32) (v_h_now_moved : Int32) (v_h_now_th_out : Int32) (v_h_now_th_size : Int32) (f_h_now_th_weight : Nat → Int32) (f_k1_th_weight : Nat → Int32) (f_h_now_th_under : Nat → Int32) (f_k1_th_under : Nat → Int32) (v_h_now_ta_whole : Int32) (v_h_now_ta_size : Int32) (f_h_now_ta_mast : Nat → Int32) (f_k1_ta_mast : Nat → Int32) (f_h_now_ta_parts : Nat → Int32) (f_k1_ta_parts : Nat → Int32) (f_h_now_ta_strength : Nat → Int32) (f_k1_ta_strength : Nat → Int32) (v_h_now_se_size : Int32) (f_h_now_se_strake : Nat → Int32) (f_k1_se_strake : Nat → Int32) (f_h_now_se_side : Nat → Int32) (f_k1_se_side : Nat → Int32) (f_h_now_se_hands : Nat → Int32) (f_k1_se_hands : Nat → Int32) (f_h_now_se_hours : Nat → Int32) (f_k1_se_hours : Nat → Int32) (f_h_now_se_pitch : Nat → Int32) (f_k1_se_pitch : Nat → Int32) (f_h_now_se_worth : Nat → Int32) (f_k1_se_worth : Nat → Int32) (f_h_now_se_state : Nat → Int32) (f_k1_se_state : Nat → Int32) (f_h_now_se_done : Nat → Int32) (f_k1_se_done : Nat → Int32) : Option (Int32 × Int32 × Int32 × Int32 × Int32 × Int32 × Int32 × Int32 × Int32 × Int32 × Int32 × Int32 × Int32 × Int32 × (Nat → Int32) × (Nat → Int32) × Int32 × Int32 × (Nat → Int32) × (Nat → Int32) × (Nat → Int32) × Int32 × (Nat → Int32) × (Nat → Int32) × (Nat → Int32) × (Nat → Int32) × (Nat → Int32) × (Nat → Int32) × (Nat → Int32) × (Nat → Int32)) :=
  k_b28 (p_X4_copyFrom v_h_now_hour v_h_now_heel v_h_now_water v_h_now_pitch v_h_now_boatUsed v_h_now_heelWent v_h_now_pitchTaken v_h_now_hoursOfMen v_h_now_parted v_h_now_moved v_h_now_th_out v_h_now_th_size f_h_now_th_weight f_k1_th_weight f_h_now_th_under f_k1_th_under v_h_now_ta_whole v_h_now_ta_size f_h_now_ta_mast f_k1_ta_mast f_h_now_ta_parts f_k1_ta_parts f_h_now_ta_strength f_k1_ta_strength v_h_now_se_size f_h_now_se_strake f_k1_se_strake f_h_now_se_side f_k1_se_side f_h_now_se_hands f_k1_se_hands f_h_now_se_hours f_k1_se_hours f_h_now_se_pitch f_k1_se_pitch f_h_now_se_worth f_k1_se_worth f_h_now_se_state f_k1_se_state f_h_now_se_done f_k1_se_done) fun w_k1_hour_1 w_k1_heel_2 w_k1_water_3 w_k1_pitch_4 w_k1_boatUsed_5 w_k1_heelWent_6 w_k1_pitchTaken_7 w_k1_hoursOfMen_8 w_k1_parted_9 w_k1_moved_10 w_k1_th_out_11 w_k1_th_size_12 w_k1_th_weight_13 w_k1_th_under_14 w_k1_ta_whole_15 w_k1_ta_size_16 w_k1_ta_mast_17 w_k1_ta_parts_18 w_k1_ta_strength_19 w_k1_se_size_20 w_k1_se_strake_21 w_k1_se_side_22 w_k1_se_hands_23 w_k1_se_hours_24 w_k1_se_pitch_25 w_k1_se_worth_26 w_k1_se_state_27 w_k1_se_done_28 =>
  some (2, 2, w_k1_hour_1, w_k1_heel_2, w_k1_water_3, w_k1_pitch_4, w_k1_boatUsed_5, w_k1_heelWent_6, w_k1_pitchTaken_7, w_k1_hoursOfMen_8, w_k1_parted_9, w_k1_moved_10, w_k1_th_out_11, w_k1_th_size_12, w_k1_th_weight_13, w_k1_th_under_14, w_k1_ta_whole_15, w_k1_ta_size_16, w_k1_ta_mast_17, w_k1_ta_parts_18, w_k1_ta_strength_19, w_k1_se_size_20, w_k1_se_strake_21, w_k1_se_side_22, w_k1_se_hands_23, w_k1_se_hours_24, w_k1_se_pitch_25, w_k1_se_worth_26, w_k1_se_state_27, w_k1_se_done_28)
def p_X8_back_1 (v_k0_hour : Int32) (v_k0_heel : Int32) (v_k0_water : Int32) (v_k0_pitch : Int32) (v_k0_boatUsed : Int32) (v_k0_heelWent : Int32) (v_k0_pitchTaken : Int32) (v_k0_hoursOfMen : Int32) (v_k0_parted : Int32) (v_k0_moved : Int32) (v_k0_th_out : Int32) (v_k0_th_size : Int32) (f_k0_th_weight : Nat → Int32) (f_h_now_th_weight : Nat → Int32) (f_k0_th_under : Nat → Int32) (f_h_now_th_under : Nat → Int32) (v_k0_ta_whole : Int32) (v_k0_ta_size : Int32) (f_k0_ta_mast : Nat → Int32) (f_h_now_ta_mast : Nat → Int32) (f_k0_ta_parts : Nat → Int32) (f_h_now_ta_parts : Nat → Int32) (f_k0_ta_strength : Nat → Int32) (f_h_now_ta_strength : Nat → Int32) (v_k0_se_size : Int32) (f_k0_se_strake : Nat → Int32) (f_h_now_se_strake : Nat → Int32) (f_k0_se_side : Nat → Int32) (f_h_now_se_side : Nat → Int32) (f_k0_se_hands : Nat → Int32) (f_h_now_se_hands : Nat → Int32) (f_k0_se_hours : Nat → Int32) (f_h_now_se_hours : Nat → Int32) (f_k0_se_pitch : Nat → Int32) (f_h_now_se_pitch : Nat → Int32) (f_k0_se_worth : Nat → Int32) (f_h_now_se_worth : Nat → Int32) (f_k0_se_state : Nat → Int32) (f_h_now_se_state : Nat → Int32) (f_k0_se_done : Nat → Int32) (f_h_now_se_done : Nat → Int32) : Option (Int32 × Int32 × Int32 × Int32 × Int32 × Int32 × Int32 × Int32 × Int32 × Int32 × Int32 × Int32 × Int32 × Int32 × (Nat → Int32) × (Nat → Int32) × Int32 × Int32 × (Nat → Int32) × (Nat → Int32) × (Nat → Int32) × Int32 × (Nat → Int32) × (Nat → Int32) × (Nat → Int32) × (Nat → Int32) × (Nat → Int32) × (Nat → Int32) × (Nat → Int32) × (Nat → Int32)) :=
  k_b28 (p_X4_copyFrom v_k0_hour v_k0_heel v_k0_water v_k0_pitch v_k0_boatUsed v_k0_heelWent v_k0_pitchTaken v_k0_hoursOfMen v_k0_parted v_k0_moved v_k0_th_out v_k0_th_size f_k0_th_weight f_h_now_th_weight f_k0_th_under f_h_now_th_under v_k0_ta_whole v_k0_ta_size f_k0_ta_mast f_h_now_ta_mast f_k0_ta_parts f_h_now_ta_parts f_k0_ta_strength f_h_now_ta_strength v_k0_se_size f_k0_se_strake f_h_now_se_strake f_k0_se_side f_h_now_se_side f_k0_se_hands f_h_now_se_hands f_k0_se_hours f_h_now_se_hours f_k0_se_pitch f_h_now_se_pitch f_k0_se_worth f_h_now_se_worth f_k0_se_state f_h_now_se_state f_k0_se_done f_h_now_se_done) fun w_h_now_hour_1 w_h_now_heel_2 w_h_now_water_3 w_h_now_pitch_4 w_h_now_boatUsed_5 w_h_now_heelWent_6 w_h_now_pitchTaken_7 w_h_now_hoursOfMen_8 w_h_now_parted_9 w_h_now_moved_10 w_h_now_th_out_11 w_h_now_th_size_12 w_h_now_th_weight_13 w_h_now_th_under_14 w_h_now_ta_whole_15 w_h_now_ta_size_16 w_h_now_ta_mast_17 w_h_now_ta_parts_18 w_h_now_ta_strength_19 w_h_now_se_size_20 w_h_now_se_strake_21 w_h_now_se_side_22 w_h_now_se_hands_23 w_h_now_se_hours_24 w_h_now_se_pitch_25 w_h_now_se_worth_26 w_h_now_se_state_27 w_h_now_se_done_28 =>
  some (0, 0, w_h_now_hour_1, w_h_now_heel_2, w_h_now_water_3, w_h_now_pitch_4, w_h_now_boatUsed_5, w_h_now_heelWent_6, w_h_now_pitchTaken_7, w_h_now_hoursOfMen_8, w_h_now_parted_9, w_h_now_moved_10, w_h_now_th_out_11, w_h_now_th_size_12, w_h_now_th_weight_13, w_h_now_th_under_14, w_h_now_ta_whole_15, w_h_now_ta_size_16, w_h_now_ta_mast_17, w_h_now_ta_parts_18, w_h_now_ta_strength_19, w_h_now_se_size_20, w_h_now_se_strake_21, w_h_now_se_side_22, w_h_now_se_hands_23, w_h_now_se_hours_24, w_h_now_se_pitch_25, w_h_now_se_worth_26, w_h_now_se_state_27, w_h_now_se_done_28)
def p_X8_keep_2 (v_h_now_hour : Int32) (v_h_now_heel : Int32) (v_h_now_water : Int32) (v_h_now_pitch : Int32) (v_h_now_boatUsed : Int32) (v_h_now_heelWent : Int32) (v_h_now_pitchTaken : Int32) (v_h_now_hoursOfMen : Int32) (v_h_now_parted : Int32) (v_h_now_moved : Int32) (v_h_now_th_out : Int32) (v_h_now_th_size : Int32) (f_h_now_th_weight : Nat → Int32) (f_k2_th_weight : Nat → Int32) (f_h_now_th_under : Nat → Int32) (f_k2_th_under : Nat → Int32) (v_h_now_ta_whole : Int32) (v_h_now_ta_size : Int32) (f_h_now_ta_mast : Nat → Int32) (f_k2_ta_mast : Nat → Int32) (f_h_now_ta_parts : Nat → Int32) (f_k2_ta_parts : Nat → Int32) (f_h_now_ta_strength : Nat → Int32) (f_k2_ta_strength : Nat → Int32) (v_h_now_se_size : Int32) (f_h_now_se_strake : Nat → Int32) (f_k2_se_strake : Nat → Int32) (f_h_now_se_side : Nat → Int32) (f_k2_se_side : Nat → Int32) (f_h_now_se_hands : Nat → Int32) (f_k2_se_hands : Nat → Int32) (f_h_now_se_hours : Nat → Int32) (f_k2_se_hours : Nat → Int32) (f_h_now_se_pitch : Nat → Int32) (f_k2_se_pitch : Nat → Int32) (f_h_now_se_worth : Nat → Int32) (f_k2_se_worth : Nat → Int32) (f_h_now_se_state : Nat → Int32) (f_k2_se_state : Nat → Int32) (f_h_now_se_done : Nat → Int32) (f_k2_se_done : Nat → Int32) : Option (Int32 × Int32 × Int32 × Int32 × Int32 × Int32 × Int32 × Int32 × Int32 × Int32 × Int32 × Int32 × Int32 × Int32 × (Nat → Int32) × (Nat → Int32) × Int32 × Int32 × (Nat → Int32) × (Nat → Int32) × (Nat → Int32) × Int32 × (Nat → Int32) × (Nat → Int32) × (Nat → Int32) × (Nat → Int32) × (Nat → Int32) × (Nat → Int32) × (Nat → Int32) × (Nat → Int32)) :=
  k_b28 (p_X4_copyFrom v_h_now_hour v_h_now_heel v_h_now_water v_h_now_pitch v_h_now_boatUsed v_h_now_heelWent v_h_now_pitchTaken v_h_now_hoursOfMen v_h_now_parted v_h_now_moved v_h_now_th_out v_h_now_th_size f_h_now_th_weight f_k2_th_weight f_h_now_th_under f_k2_th_under v_h_now_ta_whole v_h_now_ta_size f_h_now_ta_mast f_k2_ta_mast f_h_now_ta_parts f_k2_ta_parts f_h_now_ta_strength f_k2_ta_strength v_h_now_se_size f_h_now_se_strake f_k2_se_strake f_h_now_se_side f_k2_se_side f_h_now_se_hands f_k2_se_hands f_h_now_se_hours f_k2_se_hours f_h_now_se_pitch f_k2_se_pitch f_h_now_se_worth f_k2_se_worth f_h_now_se_state f_k2_se_state f_h_now_se_done f_k2_se_done) fun w_k2_hour_1 w_k2_heel_2 w_k2_water_3 w_k2_pitch_4 w_k2_boatUsed_5 w_k2_heelWent_6 w_k2_pitchTaken_7 w_k2_hoursOfMen_8 w_k2_parted_9 w_k2_moved_10 w_k2_th_out_11 w_k2_th_size_12 w_k2_th_weight_13 w_k2_th_under_14 w_k2_ta_whole_15 w_k2_ta_size_16 w_k2_ta_mast_17 w_k2_ta_parts_18 w_k2_ta_strength_19 w_k2_se_size_20 w_k2_se_strake_21 w_k2_se_side_22 w_k2_se_hands_23 w_k2_se_hours_24 w_k2_se_pitch_25 w_k2_se_worth_26 w_k2_se_state_27 w_k2_se_done_28 =>
  some (3, 3, w_k2_hour_1, w_k2_heel_2, w_k2_water_3, w_k2_pitch_4, w_k2_boatUsed_5, w_k2_heelWent_6, w_k2_pitchTaken_7, w_k2_hoursOfMen_8, w_k2_parted_9, w_k2_moved_10, w_k2_th_out_11, w_k2_th_size_12, w_k2_th_weight_13, w_k2_th_under_14, w_k2_ta_whole_15, w_k2_ta_size_16, w_k2_ta_mast_17, w_k2_ta_parts_18, w_k2_ta_strength_19, w_k2_se_size_20, w_k2_se_strake_21, w_k2_se_side_22, w_k2_se_hands_23, w_k2_se_hours_24, w_k2_se_pitch_25, w_k2_se_worth_26, w_k2_se_state_27, w_k2_se_done_28)
def p_X8_back_2 (v_k1_hour : Int32) (v_k1_heel : Int32) (v_k1_water : Int32) (v_k1_pitch : Int32) (v_k1_boatUsed : Int32) (v_k1_heelWent : Int32) (v_k1_pitchTaken : Int32) (v_k1_hoursOfMen : Int32) (v_k1_parted : Int32) (v_k1_moved : Int32) (v_k1_th_out : Int32) (v_k1_th_size : Int32) (f_k1_th_weight : Nat → Int32) (f_h_now_th_weight : Nat → Int32) (f_k1_th_under : Nat → Int32) (f_h_now_th_under : Nat → Int32) (v_k1_ta_whole : Int32) (v_k1_ta_size : Int32) (f_k1_ta_mast : Nat → Int32) (f_h_now_ta_mast : Nat → Int32) (f_k1_ta_parts : Nat → Int32) (f_h_now_ta_parts : Nat → Int32) (f_k1_ta_strength : Nat → Int32) (f_h_now_ta_strength : Nat → Int32) (v_k1_se_size : Int32) (f_k1_se_strake : Nat → Int32) (f_h_now_se_strake : Nat → Int32) (f_k1_se_side : Nat → Int32) (f_h_now_se_side : Nat → Int32) (f_k1_se_hands : Nat → Int32) (f_h_now_se_hands : Nat → Int32) (f_k1_se_hours : Nat → Int32) (f_h_now_se_hours : Nat → Int32) (f_k1_se_pitch : Nat → Int32) (f_h_now_se_pitch : Nat → Int32) (f_k1_se_worth : Nat → Int32) (f_h_now_se_worth : Nat → Int32) (f_k1_se_state : Nat → Int32) (f_h_now_se_state : Nat → Int32) (f_k1_se_done : Nat → Int32) (f_h_now_se_done : Nat → Int32) : Option (Int32 × Int32 × Int32 × Int32 × Int32 × Int32 × Int32 × Int32 × Int32 × Int32 × Int32 × Int32 × Int32 × Int32 × (Nat → Int32) × (Nat → Int32) × Int32 × Int32 × (Nat → Int32) × (Nat → Int32) × (Nat → Int32) × Int32 × (Nat → Int32) × (Nat → Int32) × (Nat → Int32) × (Nat → Int32) × (Nat → Int32) × (Nat → Int32) × (Nat → Int32) × (Nat → Int32)) :=
  k_b28 (p_X4_copyFrom v_k1_hour v_k1_heel v_k1_water v_k1_pitch v_k1_boatUsed v_k1_heelWent v_k1_pitchTaken v_k1_hoursOfMen v_k1_parted v_k1_moved v_k1_th_out v_k1_th_size f_k1_th_weight f_h_now_th_weight f_k1_th_under f_h_now_th_under v_k1_ta_whole v_k1_ta_size f_k1_ta_mast f_h_now_ta_mast f_k1_ta_parts f_h_now_ta_parts f_k1_ta_strength f_h_now_ta_strength v_k1_se_size f_k1_se_strake f_h_now_se_strake f_k1_se_side f_h_now_se_side f_k1_se_hands f_h_now_se_hands f_k1_se_hours f_h_now_se_hours f_k1_se_pitch f_h_now_se_pitch f_k1_se_worth f_h_now_se_worth f_k1_se_state f_h_now_se_state f_k1_se_done f_h_now_se_done) fun w_h_now_hour_1 w_h_now_heel_2 w_h_now_water_3 w_h_now_pitch_4 w_h_now_boatUsed_5 w_h_now_heelWent_6 w_h_now_pitchTaken_7 w_h_now_hoursOfMen_8 w_h_now_parted_9 w_h_now_moved_10 w_h_now_th_out_11 w_h_now_th_size_12 w_h_now_th_weight_13 w_h_now_th_under_14 w_h_now_ta_whole_15 w_h_now_ta_size_16 w_h_now_ta_mast_17 w_h_now_ta_parts_18 w_h_now_ta_strength_19 w_h_now_se_size_20 w_h_now_se_strake_21 w_h_now_se_side_22 w_h_now_se_hands_23 w_h_now_se_hours_24 w_h_now_se_pitch_25 w_h_now_se_worth_26 w_h_now_se_state_27 w_h_now_se_done_28 =>
  some (1, 1, w_h_now_hour_1, w_h_now_heel_2, w_h_now_water_3, w_h_now_pitch_4, w_h_now_boatUsed_5, w_h_now_heelWent_6, w_h_now_pitchTaken_7, w_h_now_hoursOfMen_8, w_h_now_parted_9, w_h_now_moved_10, w_h_now_th_out_11, w_h_now_th_size_12, w_h_now_th_weight_13, w_h_now_th_under_14, w_h_now_ta_whole_15, w_h_now_ta_size_16, w_h_now_ta_mast_17, w_h_now_ta_parts_18, w_h_now_ta_strength_19, w_h_now_se_size_20, w_h_now_se_strake_21, w_h_now_se_side_22, w_h_now_se_hands_23, w_h_now_se_hours_24, w_h_now_se_pitch_25, w_h_now_se_worth_26, w_h_now_se_state_27, w_h_now_se_done_28)
def p_X8_keep_3  : Option (Int32 × Int32) :=
  some ((-3), 3)
def p_X8_back_3 (v_k2_hour : Int32) (v_k2_heel : Int32) (v_k2_water : Int32) (v_k2_pitch : Int32) (v_k2_boatUsed : Int32) (v_k2_heelWent : Int32) (v_k2_pitchTaken : Int32) (v_k2_hoursOfMen : Int32) (v_k2_parted : Int32) (v_k2_moved : Int32) (v_k2_th_out : Int32) (v_k2_th_size : Int32) (f_k2_th_weight : Nat → Int32) (f_h_now_th_weight : Nat → Int32) (f_k2_th_under : Nat → Int32) (f_h_now_th_under : Nat → Int32) (v_k2_ta_whole : Int32) (v_k2_ta_size : Int32) (f_k2_ta_mast : Nat → Int32) (f_h_now_ta_mast : Nat → Int32) (f_k2_ta_parts : Nat → Int32) (f_h_now_ta_parts : Nat → Int32) (f_k2_ta_strength : Nat → Int32) (f_h_now_ta_strength : Nat → Int32) (v_k2_se_size : Int32) (f_k2_se_strake : Nat → Int32) (f_h_now_se_strake : Nat → Int32) (f_k2_se_side : Nat → Int32) (f_h_now_se_side : Nat → Int32) (f_k2_se_hands : Nat → Int32) (f_h_now_se_hands : Nat → Int32) (f_k2_se_hours : Nat → Int32) (f_h_now_se_hours : Nat → Int32) (f_k2_se_pitch : Nat → Int32) (f_h_now_se_pitch : Nat → Int32) (f_k2_se_worth : Nat → Int32) (f_h_now_se_worth : Nat → Int32) (f_k2_se_state : Nat → Int32) (f_h_now_se_state : Nat → Int32) (f_k2_se_done : Nat → Int32) (f_h_now_se_done : Nat → Int32) : Option (Int32 × Int32 × Int32 × Int32 × Int32 × Int32 × Int32 × Int32 × Int32 × Int32 × Int32 × Int32 × Int32 × Int32 × (Nat → Int32) × (Nat → Int32) × Int32 × Int32 × (Nat → Int32) × (Nat → Int32) × (Nat → Int32) × Int32 × (Nat → Int32) × (Nat → Int32) × (Nat → Int32) × (Nat → Int32) × (Nat → Int32) × (Nat → Int32) × (Nat → Int32) × (Nat → Int32)) :=
  k_b28 (p_X4_copyFrom v_k2_hour v_k2_heel v_k2_water v_k2_pitch v_k2_boatUsed v_k2_heelWent v_k2_pitchTaken v_k2_hoursOfMen v_k2_parted v_k2_moved v_k2_th_out v_k2_th_size f_k2_th_weight f_h_now_th_weight f_k2_th_under f_h_now_th_under v_k2_ta_whole v_k2_ta_size f_k2_ta_mast f_h_now_ta_mast f_k2_ta_parts f_h_now_ta_parts f_k2_ta_strength f_h_now_ta_strength v_k2_se_size f_k2_se_strake f_h_now_se_strake f_k2_se_side f_h_now_se_side f_k2_se_hands f_h_now_se_hands f_k2_se_hours f_h_now_se_hours f_k2_se_pitch f_h_now_se_pitch f_k2_se_worth f_h_now_se_worth f_k2_se_state f_h_now_se_state f_k2_se_done f_h_now_se_done) fun w_h_now_hour_1 w_h_now_heel_2 w_h_now_water_3 w_h_now_pitch_4 w_h_now_boatUsed_5 w_h_now_heelWent_6 w_h_now_pitchTaken_7 w_h_now_hoursOfMen_8 w_h_now_parted_9 w_h_now_moved_10 w_h_now_th_out_11 w_h_now_th_size_12 w_h_now_th_weight_13 w_h_now_th_under_14 w_h_now_ta_whole_15 w_h_now_ta_size_16 w_h_now_ta_mast_17 w_h_now_ta_parts_18 w_h_now_ta_strength_19 w_h_now_se_size_20 w_h_now_se_strake_21 w_h_now_se_side_22 w_h_now_se_hands_23 w_h_now_se_hours_24 w_h_now_se_pitch_25 w_h_now_se_worth_26 w_h_now_se_state_27 w_h_now_se_done_28 =>
  some (2, 2, w_h_now_hour_1, w_h_now_heel_2, w_h_now_water_3, w_h_now_pitch_4, w_h_now_boatUsed_5, w_h_now_heelWent_6, w_h_now_pitchTaken_7, w_h_now_hoursOfMen_8, w_h_now_parted_9, w_h_now_moved_10, w_h_now_th_out_11, w_h_now_th_size_12, w_h_now_th_weight_13, w_h_now_th_under_14, w_h_now_ta_whole_15, w_h_now_ta_size_16, w_h_now_ta_mast_17, w_h_now_ta_parts_18, w_h_now_ta_strength_19, w_h_now_se_size_20, w_h_now_se_strake_21, w_h_now_se_side_22, w_h_now_se_hands_23, w_h_now_se_hours_24, w_h_now_se_pitch_25, w_h_now_se_worth_26, w_h_now_se_state_27, w_h_now_se_done_28)
def p_X9_in (a0 : Int64) (a2 : Int64) (a4 : Int64) : Option (Int32) :=
  if (lg_cmp a0 a2) < 0 then
    some 0
  else
    if 0 < (lg_cmp a0 a4) then
      some 0
    else
      some 1
def p_X9_isHour (a0 : Int32) : Option (Int32) :=
  k_b1 (p_X9_in ((a0).toInt64) 0 95) fun r1 =>
  k_ck (r1 = 0 ∨ r1 = 1) (some r1)
def p_X9_tideIn (f_h_tide : Nat → Int32) (a1 : Int32) : Option (Int32) :=
  if a1 ≤ 95 then
    k_ix a1 96 (
      some (f_h_tide a1.toNatClampNeg))
  else
    some (f_h_tide 95)
def p_X9_rains (f_h_rain : Nat → Int32) (a1 : Int32) : Option (Int32) :=
  if a1 ≤ 95 then
    k_ix a1 96 (
      if (f_h_rain a1.toNatClampNeg) = 1 then
        some 1
      else
        some 0)
  else
    if (f_h_rain 95) = 1 then
      some 1
    else
      some 0
def p_X9_tide (f_h_tide : Nat → Int32) (a1 : Int32) (a2 : Int32) : Option (Int32 × Int32 × (Nat → Int32)) :=
  k_b1 (p_X9_isHour a1) fun r1 =>
  if r1 = 0 then
    some ((-1), 0, f_h_tide)
  else
    k_b1 (p_X9_in ((a2).toInt64) 0 60) fun r3 =>
    if r3 = 0 then
      some ((-1), 0, f_h_tide)
    else
      k_ix a1 96 (
        k_ix a1 96 (
          some (f_h_tide a1.toNatClampNeg, 0, upd f_h_tide a1.toNatClampNeg a2)))
def lb_X9_tides_89 (a2 : Int32) (a1 : Int32) (a3 : Int64) (x5_23 : Int32) (c_h_tide_24 : Nat → Int32) : Option ((Int32 × (Nat → Int32)) ⊕ ((Nat → Int32))) :=
  if a2 ≤ x5_23 then
    some (.inr c_h_tide_24)
  else
    k_ix (a1 + x5_23) 96 (
      some (.inl (x5_23 + 1, upd c_h_tide_24 (a1 + x5_23).toNatClampNeg (((a3 >>> ((8 * x5_23).toInt64 &&& 63)) &&& 255).toInt32))))
def lb_X9_tides_54 (a2 : Int32) (a3 : Int64) (f_h_tide : Nat → Int32) (x5_27 : Int32) : Option ((Int32) ⊕ ((Int32 × Int32 × (Nat → Int32)) ⊕ (Unit))) :=
  if a2 ≤ x5_27 then
    some (.inr (.inr ()))
  else
    if (lg_cmp ((a3 >>> ((8 * x5_27).toInt64 &&& 63)) &&& 255) 60) ≤ 0 then
      some (.inl (x5_27 + 1))
    else
      some (.inr (.inl ((-1), 0, f_h_tide)))
def lj_X9_tides_51 (a2 : Int32) (a3 : Int64) (f_h_tide : Nat → Int32) (a1 : Int32)  : Option (Int32 × Int32 × (Nat → Int32)) :=
  k_bx0 (k_lp (fun s => lb_X9_tides_54 a2 a3 f_h_tide s) k_fuel 0) (fun q => some q) (
    k_b1 (k_lp (fun s => lb_X9_tides_89 a2 a1 a3 s.1 s.2) k_fuel (0, f_h_tide)) fun c_h_tide_22 =>
    some (a2, 0, c_h_tide_22))
def p_X9_tides (f_h_tide : Nat → Int32) (a1 : Int32) (a2 : Int32) (a3 : Int64) : Option (Int32 × Int32 × (Nat → Int32)) :=
  k_b1 (p_X9_isHour a1) fun r1 =>
  if r1 = 0 then
    some ((-1), 0, f_h_tide)
  else
    k_b1 (p_X9_in ((a2).toInt64) 1 8) fun r3 =>
    if r3 = 0 then
      some ((-1), 0, f_h_tide)
    else
      if 96 < (a1 + a2) then
        some ((-1), 0, f_h_tide)
      else
        if 8 ≤ a2 then
          lj_X9_tides_51 a2 a3 f_h_tide a1
        else
          if (lg_cmp (((a3).toUInt64 >>> ((8 * a2).toInt64.toUInt64 &&& Int64.toUInt64 63)).toInt64) 0) = 0 then
            lj_X9_tides_51 a2 a3 f_h_tide a1
          else
            some ((-1), 0, f_h_tide)
def p_X9_rain (f_h_rain : Nat → Int32) (a1 : Int32) (a2 : Int32) : Option (Int32 × Int32 × (Nat → Int32)) :=
  k_b1 (p_X9_isHour a1) fun r1 =>
  if r1 = 0 then
    some ((-1), 0, f_h_rain)
  else
    k_ix a1 96 (
      if a2 = 0 then
        k_ix a1 96 (
          some (f_h_rain a1.toNatClampNeg, 0, upd f_h_rain a1.toNatClampNeg 0))
      else
        k_ix a1 96 (
          some (f_h_rain a1.toNatClampNeg, 0, upd f_h_rain a1.toNatClampNeg 1)))
def lj_X9_rule_110 (a1 : Int32) (f_h_rule : Nat → Int32) (a2 : Int32) (f_h_now : Nat → Int32) (t16 : Int32) : Option (Int32 × Int32 × (Nat → Int32) × (Nat → Int32)) :=
  k_ix a1 8 (
    if a1 = 4 then
      some (t16, 0, upd f_h_rule a1.toNatClampNeg a2, upd f_h_now 5 a2)
    else
      some (t16, 0, upd f_h_rule a1.toNatClampNeg a2, f_h_now))
def lj_X9_rule_73 (a2 : Int32) (t5 : Int32) (f_h_rule : Nat → Int32) (f_h_now : Nat → Int32) (a1 : Int32) (t10 : Int32) : Option (Int32 × Int32 × (Nat → Int32) × (Nat → Int32)) :=
  k_b1 (p_X9_in ((a2).toInt64) ((t5).toInt64) ((t10).toInt64)) fun r12 =>
  if r12 = 0 then
    some ((-1), 0, f_h_rule, f_h_now)
  else
    if a1 = 4 then
      lj_X9_rule_110 a1 f_h_rule a2 f_h_now (f_h_now 5)
    else
      k_ix a1 8 (
        lj_X9_rule_110 a1 f_h_rule a2 f_h_now (f_h_rule a1.toNatClampNeg))
def lj_X9_rule_39 (a1 : Int32) (a2 : Int32) (f_h_rule : Nat → Int32) (f_h_now : Nat → Int32) (t5 : Int32) : Option (Int32 × Int32 × (Nat → Int32) × (Nat → Int32)) :=
  if a1 = 0 then
    lj_X9_rule_73 a2 t5 f_h_rule f_h_now a1 40
  else
    if a1 = 2 then
      lj_X9_rule_73 a2 t5 f_h_rule f_h_now a1 2000
    else
      if a1 = 3 then
        lj_X9_rule_73 a2 t5 f_h_rule f_h_now a1 20
      else
        lj_X9_rule_73 a2 t5 f_h_rule f_h_now a1 1000
def p_X9_rule (f_h_rule : Nat → Int32) (f_h_now : Nat → Int32) (a1 : Int32) (a2 : Int32) : Option (Int32 × Int32 × (Nat → Int32) × (Nat → Int32)) :=
  k_b1 (p_X9_in ((a1).toInt64) 0 7) fun r1 =>
  if r1 = 0 then
    some ((-1), 0, f_h_rule, f_h_now)
  else
    if a1 = 1 then
      lj_X9_rule_39 a1 a2 f_h_rule f_h_now 100
    else
      if a1 = 3 then
        lj_X9_rule_39 a1 a2 f_h_rule f_h_now 1
      else
        lj_X9_rule_39 a1 a2 f_h_rule f_h_now 0
def p_X9_thing (f_h_now : Nat → Int32) (a1 : Int32) (a2 : Int32) : Option (Int32 × Int32 × (Nat → Int32)) :=
  k_b1 (p_X9_in ((a1).toInt64) 1 100) fun r1 =>
  if r1 = 0 then
    some ((-1), 0, f_h_now)
  else
    k_b1 (p_X9_in ((a2).toInt64) (-1) (((f_h_now 10) - 1).toInt64)) fun r3 =>
    if r3 = 0 then
      some ((-1), 0, f_h_now)
    else
      if a2 < 0 then
        if (f_h_now 10) = 12 then
          some ((-3), 0, f_h_now)
        else
          k_ix (13 + (f_h_now 10)) 169 (
            k_ix (25 + (f_h_now 10)) 169 (
              k_ix (37 + (f_h_now 10)) 169 (
                some (f_h_now 10, 0, upd (upd (upd (upd f_h_now (13 + (f_h_now 10)).toNatClampNeg a1) (25 + (f_h_now 10)).toNatClampNeg a2) (37 + (f_h_now 10)).toNatClampNeg 1) 10 (((upd (upd (upd f_h_now (13 + (f_h_now 10)).toNatClampNeg a1) (25 + (f_h_now 10)).toNatClampNeg a2) (37 + (f_h_now 10)).toNatClampNeg 1) 10) + 1)))))
      else
        k_ix (37 + a2) 169 (
          if (f_h_now (37 + a2).toNatClampNeg) = 0 then
            some ((-2), 0, f_h_now)
          else
            if (f_h_now 10) = 12 then
              some ((-3), 0, f_h_now)
            else
              k_ix (13 + (f_h_now 10)) 169 (
                k_ix (25 + (f_h_now 10)) 169 (
                  k_ix (37 + (f_h_now 10)) 169 (
                    some (f_h_now 10, 0, upd (upd (upd (upd f_h_now (13 + (f_h_now 10)).toNatClampNeg a1) (25 + (f_h_now 10)).toNatClampNeg a2) (37 + (f_h_now 10)).toNatClampNeg 1) 10 (((upd (upd (upd f_h_now (13 + (f_h_now 10)).toNatClampNeg a1) (25 + (f_h_now 10)).toNatClampNeg a2) (37 + (f_h_now 10)).toNatClampNeg 1) 10) + 1))))))
def p_X9_tackle (f_h_now : Nat → Int32) (a1 : Int32) (a2 : Int32) (a3 : Int32) : Option (Int32 × Int32 × (Nat → Int32)) :=
  k_b1 (p_X9_in ((a1).toInt64) 0 2) fun r1 =>
  if r1 = 0 then
    some ((-1), 0, f_h_now)
  else
    k_b1 (p_X9_in ((a2).toInt64) 1 6) fun r3 =>
    if r3 = 0 then
      some ((-1), 0, f_h_now)
    else
      k_b1 (p_X9_in ((a3).toInt64) 1 400) fun r5 =>
      if r5 = 0 then
        some ((-1), 0, f_h_now)
      else
        if (f_h_now 11) = 6 then
          some ((-3), 0, f_h_now)
        else
          k_ix (49 + (f_h_now 11)) 169 (
            k_ix (55 + (f_h_now 11)) 169 (
              k_ix (61 + (f_h_now 11)) 169 (
                k_ix (67 + (f_h_now 11)) 169 (
                  some (f_h_now 11, 0, upd (upd (upd (upd (upd f_h_now (49 + (f_h_now 11)).toNatClampNeg a1) (55 + (f_h_now 11)).toNatClampNeg a2) (61 + (f_h_now 11)).toNatClampNeg a3) (67 + (f_h_now 11)).toNatClampNeg 1) 11 (((upd (upd (upd (upd f_h_now (49 + (f_h_now 11)).toNatClampNeg a1) (55 + (f_h_now 11)).toNatClampNeg a2) (61 + (f_h_now 11)).toNatClampNeg a3) (67 + (f_h_now 11)).toNatClampNeg 1) 11) + 1))))))
def p_X9_seam (f_h_now : Nat → Int32) (a1 : Int32) (a2 : Int32) (a3 : Int32) (a4 : Int32) (a5 : Int32) (a6 : Int32) : Option (Int32 × Int32 × (Nat → Int32)) :=
  k_b1 (p_X9_in ((a1).toInt64) 1 10) fun r1 =>
  if r1 = 0 then
    some ((-1), 0, f_h_now)
  else
    k_b1 (p_X9_in ((a2).toInt64) 0 1) fun r3 =>
    if r3 = 0 then
      some ((-1), 0, f_h_now)
    else
      k_b1 (p_X9_in ((a3).toInt64) 1 6) fun r5 =>
      if r5 = 0 then
        some ((-1), 0, f_h_now)
      else
        k_b1 (p_X9_in ((a4).toInt64) 1 4) fun r7 =>
        if r7 = 0 then
          some ((-1), 0, f_h_now)
        else
          k_b1 (p_X9_in ((a5).toInt64) 0 50) fun r9 =>
          if r9 = 0 then
            some ((-1), 0, f_h_now)
          else
            k_b1 (p_X9_in ((a6).toInt64) 1 100) fun r11 =>
            if r11 = 0 then
              some ((-1), 0, f_h_now)
            else
              if (f_h_now 12) = 12 then
                some ((-3), 0, f_h_now)
              else
                k_ix (73 + (f_h_now 12)) 169 (
                  k_ix (85 + (f_h_now 12)) 169 (
                    k_ix (97 + (f_h_now 12)) 169 (
                      k_ix (109 + (f_h_now 12)) 169 (
                        k_ix (121 + (f_h_now 12)) 169 (
                          k_ix (133 + (f_h_now 12)) 169 (
                            k_ix (145 + (f_h_now 12)) 169 (
                              k_ix (157 + (f_h_now 12)) 169 (
                                some (f_h_now 12, 0, upd (upd (upd (upd (upd (upd (upd (upd (upd f_h_now (73 + (f_h_now 12)).toNatClampNeg a1) (85 + (f_h_now 12)).toNatClampNeg a2) (97 + (f_h_now 12)).toNatClampNeg a3) (109 + (f_h_now 12)).toNatClampNeg a4) (121 + (f_h_now 12)).toNatClampNeg a5) (133 + (f_h_now 12)).toNatClampNeg a6) (145 + (f_h_now 12)).toNatClampNeg 0) (157 + (f_h_now 12)).toNatClampNeg 0) 12 (((upd (upd (upd (upd (upd (upd (upd (upd f_h_now (73 + (f_h_now 12)).toNatClampNeg a1) (85 + (f_h_now 12)).toNatClampNeg a2) (97 + (f_h_now 12)).toNatClampNeg a3) (109 + (f_h_now 12)).toNatClampNeg a4) (121 + (f_h_now 12)).toNatClampNeg a5) (133 + (f_h_now 12)).toNatClampNeg a6) (145 + (f_h_now 12)).toNatClampNeg 0) (157 + (f_h_now 12)).toNatClampNeg 0) 12) + 1))))))))))
def lb_X9_total_9 (f_h_now : Nat → Int32) (x1_13 : Int32) (x2_14 : Int32) : Option ((Int32 × Int32) ⊕ (Int32)) :=
  if (f_h_now 10) ≤ x2_14 then
    some (.inr x1_13)
  else
    k_ix (37 + x2_14) 169 (
      if (f_h_now (37 + x2_14).toNatClampNeg) = 1 then
        k_ix (13 + x2_14) 169 (
          some (.inl (x1_13 + (f_h_now (13 + x2_14).toNatClampNeg), x2_14 + 1)))
      else
        some (.inl (x1_13 + 0, x2_14 + 1)))
def p_X9_total (f_h_rule : Nat → Int32) (f_h_now : Nat → Int32) : Option (Int32) :=
  k_b1 (k_lp (fun s => lb_X9_total_9 f_h_now s.1 s.2) k_fuel (f_h_rule 1, 0)) fun x1_12 =>
  some x1_12
def p_X9_force (f_h_rule : Nat → Int32) (f_h_now : Nat → Int32) (a1 : Int32) : Option (Int32) :=
  k_b1 (p_X9_total f_h_rule f_h_now) fun r1 =>
  if 0 ≤ a1 then
    some ((r1 * a1) / 10)
  else
    some ((r1 * (-a1)) / 10)
def lb_X9_wholes_4 (f_h_now : Nat → Int32) (x1_9 : Int32) (x2_10 : Int32) : Option ((Int32 × Int32) ⊕ (Int32)) :=
  if (f_h_now 11) ≤ x2_10 then
    some (.inr x1_9)
  else
    k_ix (67 + x2_10) 169 (
      some (.inl (x1_9 + (f_h_now (67 + x2_10).toNatClampNeg), x2_10 + 1)))
def p_X9_wholes (f_h_now : Nat → Int32) : Option (Int32) :=
  k_b1 (k_lp (fun s => lb_X9_wholes_4 f_h_now s.1 s.2) k_fuel (0, 0)) fun x1_8 =>
  some x1_8
def p_X9_up (a0 : Int32) (a1 : Int32) : Option (Int32) :=
  k_ck (¬ a1 = 0) (
    some (((a0 + a1) - 1) / a1))
def p_X9_takes (f_h_now : Nat → Int32) (f_h_rule : Nat → Int32) (a1 : Int32) : Option (Int32) :=
  k_b1 (p_X9_wholes f_h_now) fun r1 =>
  if r1 = 0 then
    some 0
  else
    k_b1 (p_X9_force f_h_rule f_h_now a1) fun r3 =>
    k_b1 (p_X9_up r3 r1) fun r4 =>
    some r4
def p_X9_ropeOf (f_h_now : Nat → Int32) (f_h_rule : Nat → Int32) (a1 : Int32) (a2 : Int32) : Option (Int32) :=
  k_b1 (p_X9_takes f_h_now f_h_rule a2) fun r1 =>
  k_ix (55 + a1) 169 (
    k_b1 (p_X9_up r1 (f_h_now (55 + a1).toNatClampNeg)) fun r3 =>
    some r3)
def p_X9_may (f_h_now : Nat → Int32) (a1 : Int32) (a2 : Int32) : Option (Int32) :=
  if a2 = 0 then
    k_ix (61 + a1) 169 (
      some (f_h_now (61 + a1).toNatClampNeg))
  else
    k_ix (61 + a1) 169 (
      some (((f_h_now (61 + a1).toNatClampNeg) * 3) / 4))
def lb_X9_mastOf_5 (f_h_now : Nat → Int32) (a1 : Int32) (f_h_rule : Nat → Int32) (a2 : Int32) (x3_17 : Int32) (x4_18 : Int32) : Option ((Int32 × Int32) ⊕ (Int32)) :=
  if (f_h_now 11) ≤ x4_18 then
    some (.inr x3_17)
  else
    k_ix (67 + x4_18) 169 (
      if (f_h_now (67 + x4_18).toNatClampNeg) = 1 then
        k_ix (49 + x4_18) 169 (
          if (f_h_now (49 + x4_18).toNatClampNeg) = a1 then
            k_b1 (p_X9_takes f_h_now f_h_rule a2) fun r24 =>
            some (.inl (x3_17 + r24, x4_18 + 1))
          else
            some (.inl (x3_17 + 0, x4_18 + 1)))
      else
        some (.inl (x3_17 + 0, x4_18 + 1)))
def p_X9_mastOf (f_h_now : Nat → Int32) (f_h_rule : Nat → Int32) (a1 : Int32) (a2 : Int32) : Option (Int32) :=
  k_b1 (k_lp (fun s => lb_X9_mastOf_5 f_h_now a1 f_h_rule a2 s.1 s.2) k_fuel (0, 0)) fun x3_16 =>
  some x3_16
def lb_X9_holds_85 (f_h_now : Nat → Int32) (f_h_rule : Nat → Int32) (a1 : Int32) (x3_39 : Int32) (x4_40 : Int32) : Option ((Int32 × Int32) ⊕ (Int32)) :=
  if 3 ≤ x4_40 then
    some (.inr x3_39)
  else
    if x3_39 = 0 then
      some (.inl (0, x4_40 + 1))
    else
      k_b1 (p_X9_mastOf f_h_now f_h_rule x4_40 a1) fun r43 =>
      k_ix (5 + x4_40) 8 (
        if (f_h_rule (5 + x4_40).toNatClampNeg) < r43 then
          some (.inl (0, x4_40 + 1))
        else
          some (.inl (1, x4_40 + 1)))
def lb_X9_holds_24 (f_h_now : Nat → Int32) (f_h_rule : Nat → Int32) (a1 : Int32) (a2 : Int32) (x3_46 : Int32) (x4_47 : Int32) : Option ((Int32 × Int32) ⊕ (Int32)) :=
  if (f_h_now 11) ≤ x4_47 then
    some (.inr x3_46)
  else
    if x3_46 = 0 then
      some (.inl (0, x4_47 + 1))
    else
      k_ix (67 + x4_47) 169 (
        if (f_h_now (67 + x4_47).toNatClampNeg) = 0 then
          some (.inl (1, x4_47 + 1))
        else
          k_b1 (p_X9_ropeOf f_h_now f_h_rule x4_47 a1) fun r52 =>
          k_b1 (p_X9_may f_h_now x4_47 a2) fun r53 =>
          if r53 < r52 then
            some (.inl (0, x4_47 + 1))
          else
            some (.inl (1, x4_47 + 1)))
def lj_X9_holds_20 (f_h_now : Nat → Int32) (f_h_rule : Nat → Int32) (a1 : Int32) (a2 : Int32) (t5 : Int32) : Option (Int32) :=
  k_b1 (k_lp (fun s => lb_X9_holds_24 f_h_now f_h_rule a1 a2 s.1 s.2) k_fuel (t5, 0)) fun x3_24 =>
  k_b1 (k_lp (fun s => lb_X9_holds_85 f_h_now f_h_rule a1 s.1 s.2) k_fuel (x3_24, 0)) fun x3_37 =>
  k_ck (x3_37 = 0 ∨ x3_37 = 1) (some x3_37)
def p_X9_holds (f_h_now : Nat → Int32) (f_h_rule : Nat → Int32) (a1 : Int32) (a2 : Int32) : Option (Int32) :=
  k_b1 (p_X9_wholes f_h_now) fun r55 =>
  if 0 < r55 then
    lj_X9_holds_20 f_h_now f_h_rule a1 a2 1
  else
    k_b1 (p_X9_force f_h_rule f_h_now a1) fun r57 =>
    if r57 = 0 then
      lj_X9_holds_20 f_h_now f_h_rule a1 a2 1
    else
      lj_X9_holds_20 f_h_now f_h_rule a1 a2 0
def p_X9_isLost (f_h_now : Nat → Int32) : Option (Int32) :=
  if (f_h_now 2) ≤ 100 then
    some 0
  else
    some 1
def lb_X9_states_4 (f_h_now : Nat → Int32) (a1 : Int32) (x2_11 : Int32) (x3_12 : Int32) : Option ((Int32 × Int32) ⊕ (Int32)) :=
  if (f_h_now 12) ≤ x3_12 then
    some (.inr x2_11)
  else
    k_ix (145 + x3_12) 169 (
      if (f_h_now (145 + x3_12).toNatClampNeg) = a1 then
        some (.inl (x2_11 + 1, x3_12 + 1))
      else
        some (.inl (x2_11 + 0, x3_12 + 1)))
def p_X9_states (f_h_now : Nat → Int32) (a1 : Int32) : Option (Int32) :=
  k_b1 (k_lp (fun s => lb_X9_states_4 f_h_now a1 s.1 s.2) k_fuel (0, 0)) fun x2_10 =>
  some x2_10
def p_X9_floats (f_h_rule : Nat → Int32) (f_h_tide : Nat → Int32) (a1 : Int32) (a2 : Int32) : Option (Int32) :=
  if a2 < (f_h_rule 2) then
    some 0
  else
    k_b1 (p_X9_tideIn f_h_tide a1) fun r2 =>
    if r2 < ((a2 / 20) + (f_h_rule 0)) then
      some 0
    else
      some 1
def p_X9_ship (f_h_rule : Nat → Int32) (f_h_now : Nat → Int32) (f_h_tide : Nat → Int32) (f_h_rain : Nat → Int32) (a1 : Int32) : Option (Int32 × Int32) :=
  if a1 = 0 then
    k_b1 (p_X9_total f_h_rule f_h_now) fun r2 =>
    some (r2, 0)
  else
  if a1 = 1 then
    k_b1 (p_X9_total f_h_rule f_h_now) fun r4 =>
    some (r4 / 20, 0)
  else
  if a1 = 2 then
    some (f_h_now 1, 0)
  else
  if a1 = 3 then
    k_b1 (p_X9_force f_h_rule f_h_now (f_h_now 1)) fun r7 =>
    some (r7, 0)
  else
  if a1 = 4 then
    some (f_h_now 2, 0)
  else
  if a1 = 5 then
    if (f_h_now 1) = 0 then
      k_b1 (p_X9_states f_h_now 1) fun r11 =>
      if r11 = 0 then
        k_b1 (p_X9_total f_h_rule f_h_now) fun r13 =>
        k_b1 (p_X9_floats f_h_rule f_h_tide (f_h_now 0) r13) fun r14 =>
        if r14 = 0 then
          some (0, 0)
        else
          some (1, 0)
      else
        some (0, 0)
    else
      some (0, 0)
  else
  if a1 = 6 then
    k_b1 (p_X9_rains f_h_rain (f_h_now 0)) fun r17 =>
    k_b1 (p_X9_holds f_h_now f_h_rule (f_h_now 1) r17) fun r18 =>
    if r18 = 0 then
      some (0, 0)
    else
      some (1, 0)
  else
  if a1 = 7 then
    k_b1 (p_X9_isLost f_h_now) fun r21 =>
    if r21 = 0 then
      some (0, 0)
    else
      some (1, 0)
  else
    some ((-100), 0)
def p_X9_tackleTold (f_h_now : Nat → Int32) (f_h_rain : Nat → Int32) (f_h_rule : Nat → Int32) (a1 : Int32) (a2 : Int32) : Option (Int32 × Int32) :=
  k_b1 (p_X9_in ((a1).toInt64) 0 (((f_h_now 11) - 1).toInt64)) fun r1 =>
  if r1 = 0 then
    some ((-1), 0)
  else
    k_b1 (p_X9_in ((a2).toInt64) 0 3) fun r3 =>
    if r3 = 0 then
      some ((-1), 0)
    else
      k_ix (67 + a1) 169 (
        if (f_h_now (67 + a1).toNatClampNeg) = 0 then
          some (0, 0)
        else
          if a2 = 0 then
            k_b1 (p_X9_takes f_h_now f_h_rule (f_h_now 1)) fun r13 =>
            some (r13, 0)
          else
            if a2 = 1 then
              k_b1 (p_X9_ropeOf f_h_now f_h_rule a1 (f_h_now 1)) fun r12 =>
              some (r12, 0)
            else
              if a2 = 2 then
                k_b1 (p_X9_rains f_h_rain (f_h_now 0)) fun r10 =>
                k_b1 (p_X9_may f_h_now a1 r10) fun r11 =>
                some (r11, 0)
              else
                some (1, 0))
def lb_X9_greatest_8 (f_h_now : Nat → Int32) (f_h_rule : Nat → Int32) (a1 : Int32) (x2_8 : Int32) : Option ((Int32) ⊕ (Int32)) :=
  k_b1 (p_X9_holds f_h_now f_h_rule x2_8 a1) fun r9 =>
  if r9 = 0 then
    some (.inl (x2_8 + (-1)))
  else
    some (.inr x2_8)
def p_X9_greatest (f_h_now : Nat → Int32) (f_h_rule : Nat → Int32) (a1 : Int32) : Option (Int32 × Int32) :=
  k_b1 (k_lp (fun s => lb_X9_greatest_8 f_h_now f_h_rule a1 s) k_fuel 9) fun x2_7 =>
  some (x2_7, 0)
def p_X9_isBare (f_h_now : Nat → Int32) (f_h_tide : Nat → Int32) (a1 : Int32) (a2 : Int32) : Option (Int32) :=
  k_ix (73 + a1) 169 (
    k_ix (85 + a1) 169 (
      if (f_h_now (85 + a1).toNatClampNeg) = 0 then
        k_b1 (p_X9_tideIn f_h_tide a2) fun r6 =>
        if ((4 * (f_h_now (73 + a1).toNatClampNeg)) + (3 * (f_h_now 1))) ≤ r6 then
          some 0
        else
          some 1
      else
        k_b1 (p_X9_tideIn f_h_tide a2) fun r4 =>
        if ((4 * (f_h_now (73 + a1).toNatClampNeg)) + ((-3) * (f_h_now 1))) ≤ r4 then
          some 0
        else
          some 1))
def lb_X9_seamTold_100 (f_h_now : Nat → Int32) (f_h_tide : Nat → Int32) (a1 : Int32) (x3_15 : Int32) : Option ((Int32) ⊕ (Int32)) :=
  if 96 ≤ ((f_h_now 0) + x3_15) then
    some (.inr x3_15)
  else
    k_b1 (p_X9_isBare f_h_now f_h_tide a1 ((f_h_now 0) + x3_15)) fun r17 =>
    if r17 = 0 then
      some (.inr x3_15)
    else
      some (.inl (x3_15 + 1))
def p_X9_seamTold (f_h_now : Nat → Int32) (f_h_tide : Nat → Int32) (a1 : Int32) (a2 : Int32) : Option (Int32 × Int32) :=
  k_b1 (p_X9_in ((a1).toInt64) 0 (((f_h_now 12) - 1).toInt64)) fun r1 =>
  if r1 = 0 then
    some ((-1), 0)
  else
    k_b1 (p_X9_in ((a2).toInt64) 0 3) fun r3 =>
    if r3 = 0 then
      some ((-1), 0)
    else
      if 3 ≤ a2 then
        k_b1 (k_lp (fun s => lb_X9_seamTold_100 f_h_now f_h_tide a1 s) k_fuel 0) fun x3_14 =>
        some (x3_14, 0)
      else
        if a2 = 0 then
          k_ix (145 + a1) 169 (
            some (f_h_now (145 + a1).toNatClampNeg, 0))
        else
          if a2 = 1 then
            k_b1 (p_X9_isBare f_h_now f_h_tide a1 (f_h_now 0)) fun r22 =>
            if r22 = 0 then
              some (0, 0)
            else
              some (1, 0)
          else
            k_ix (157 + a1) 169 (
              some (f_h_now (157 + a1).toNatClampNeg, 0))
def lb_X9_move_61 (f_h_now : Nat → Int32) (a1 : Int32) (x2_34 : Int32) : Option ((Int32) ⊕ ((Int32 × Int32 × (Nat → Int32)) ⊕ (Unit))) :=
  if (f_h_now 10) ≤ x2_34 then
    some (.inr (.inr ()))
  else
    k_ix (25 + x2_34) 169 (
      if (f_h_now (25 + x2_34).toNatClampNeg) = a1 then
        k_ix (37 + x2_34) 169 (
          if (f_h_now (37 + x2_34).toNatClampNeg) = 1 then
            some (.inr (.inl ((-2), 0, f_h_now)))
          else
            some (.inl (x2_34 + 1)))
      else
        some (.inl (x2_34 + 1)))
def p_X9_move (f_h_now : Nat → Int32) (f_h_rule : Nat → Int32) (a1 : Int32) : Option (Int32 × Int32 × (Nat → Int32)) :=
  k_b1 (p_X9_in ((a1).toInt64) 0 (((f_h_now 10) - 1).toInt64)) fun r1 =>
  if r1 = 0 then
    some ((-1), 0, f_h_now)
  else
    if (f_h_now 3) = 1 then
      some ((-2), 0, f_h_now)
    else
      k_b1 (p_X9_isLost f_h_now) fun r4 =>
      if r4 = 0 then
        k_ix (37 + a1) 169 (
          if (f_h_now (37 + a1).toNatClampNeg) = 1 then
            k_bx0 (k_lp (fun s => lb_X9_move_61 f_h_now a1 s) k_fuel 0) (fun q => some q) (
              k_ix (37 + a1) 169 (
                k_ix (37 + a1) 169 (
                  k_b1 (p_X9_total f_h_rule (upd (upd (upd f_h_now (37 + a1).toNatClampNeg (1 - (f_h_now (37 + a1).toNatClampNeg))) 3 1) 9 (((upd (upd f_h_now (37 + a1).toNatClampNeg (1 - (f_h_now (37 + a1).toNatClampNeg))) 3 1) 9) + 1))) fun r33 =>
                  some (r33, 0, upd (upd (upd f_h_now (37 + a1).toNatClampNeg (1 - (f_h_now (37 + a1).toNatClampNeg))) 3 1) 9 (((upd (upd f_h_now (37 + a1).toNatClampNeg (1 - (f_h_now (37 + a1).toNatClampNeg))) 3 1) 9) + 1)))))
          else
            k_ix (25 + a1) 169 (
              if (f_h_now (25 + a1).toNatClampNeg) < 0 then
                k_ix (37 + a1) 169 (
                  k_ix (37 + a1) 169 (
                    k_b1 (p_X9_total f_h_rule (upd (upd (upd f_h_now (37 + a1).toNatClampNeg (1 - (f_h_now (37 + a1).toNatClampNeg))) 3 1) 9 (((upd (upd f_h_now (37 + a1).toNatClampNeg (1 - (f_h_now (37 + a1).toNatClampNeg))) 3 1) 9) + 1))) fun r12 =>
                    some (r12, 0, upd (upd (upd f_h_now (37 + a1).toNatClampNeg (1 - (f_h_now (37 + a1).toNatClampNeg))) 3 1) 9 (((upd (upd f_h_now (37 + a1).toNatClampNeg (1 - (f_h_now (37 + a1).toNatClampNeg))) 3 1) 9) + 1))))
              else
                k_ix (25 + a1) 169 (
                  k_ix (37 + (f_h_now (25 + a1).toNatClampNeg)) 169 (
                    if (f_h_now (37 + (f_h_now (25 + a1).toNatClampNeg)).toNatClampNeg) = 0 then
                      some ((-2), 0, f_h_now)
                    else
                      k_ix (37 + a1) 169 (
                        k_ix (37 + a1) 169 (
                          k_b1 (p_X9_total f_h_rule (upd (upd (upd f_h_now (37 + a1).toNatClampNeg (1 - (f_h_now (37 + a1).toNatClampNeg))) 3 1) 9 (((upd (upd f_h_now (37 + a1).toNatClampNeg (1 - (f_h_now (37 + a1).toNatClampNeg))) 3 1) 9) + 1))) fun r18 =>
                          some (r18, 0, upd (upd (upd f_h_now (37 + a1).toNatClampNeg (1 - (f_h_now (37 + a1).toNatClampNeg))) 3 1) 9 (((upd (upd f_h_now (37 + a1).toNatClampNeg (1 - (f_h_now (37 + a1).toNatClampNeg))) 3 1) 9) + 1))))))))
      else
        some ((-2), 0, f_h_now)
def p_X9_heel (f_h_now : Nat → Int32) (f_h_rain : Nat → Int32) (f_h_rule : Nat → Int32) (a1 : Int32) : Option (Int32 × Int32 × (Nat → Int32)) :=
  if a1 = 1 then
    k_b1 (p_X9_isLost f_h_now) fun r2 =>
    if r2 = 0 then
      if (f_h_now 4) = 1 then
        some ((-102), 0, f_h_now)
      else
        k_b1 (p_X9_in (((f_h_now 1) + a1).toInt64) (-9) 9) fun r5 =>
        if r5 = 0 then
          some ((-102), 0, f_h_now)
        else
          k_b1 (p_X9_rains f_h_rain (f_h_now 0)) fun r7 =>
          k_b1 (p_X9_holds f_h_now f_h_rule ((f_h_now 1) + a1) r7) fun r8 =>
          if r8 = 0 then
            some ((-102), 0, f_h_now)
          else
            some ((f_h_now 1) + a1, 0, upd (upd f_h_now 1 ((f_h_now 1) + a1)) 4 1)
    else
      some ((-102), 0, f_h_now)
  else
    if a1 = (-1) then
      k_b1 (p_X9_isLost f_h_now) fun r11 =>
      if r11 = 0 then
        if (f_h_now 4) = 1 then
          some ((-102), 0, f_h_now)
        else
          k_b1 (p_X9_in (((f_h_now 1) + a1).toInt64) (-9) 9) fun r14 =>
          if r14 = 0 then
            some ((-102), 0, f_h_now)
          else
            k_b1 (p_X9_rains f_h_rain (f_h_now 0)) fun r16 =>
            k_b1 (p_X9_holds f_h_now f_h_rule ((f_h_now 1) + a1) r16) fun r17 =>
            if r17 = 0 then
              some ((-102), 0, f_h_now)
            else
              some ((f_h_now 1) + a1, 0, upd (upd f_h_now 1 ((f_h_now 1) + a1)) 4 1)
      else
        some ((-102), 0, f_h_now)
    else
      some ((-100), 0, f_h_now)
def lb_X9_part_101 (f_h_now : Nat → Int32) (f_h_rule : Nat → Int32) (x4_94 : Int32) (x3_117 : Int32) (x5_118 : Int32) : Option ((Int32 × Int32) ⊕ (Int32)) :=
  if x5_118 < 0 then
    some (.inr x3_117)
  else
    k_b1 (p_X9_mastOf f_h_now f_h_rule x4_94 (f_h_now 1)) fun r120 =>
    k_ix (5 + x4_94) 8 (
      if r120 ≤ (f_h_rule (5 + x4_94).toNatClampNeg) then
        some (.inl (x3_117, x5_118 + (-1)))
      else
        k_ix (67 + x5_118) 169 (
          if (f_h_now (67 + x5_118).toNatClampNeg) = 1 then
            k_ix (49 + x5_118) 169 (
              if (f_h_now (49 + x5_118).toNatClampNeg) = x4_94 then
                some (.inl (x5_118, x5_118 + (-1)))
              else
                some (.inl (x3_117, x5_118 + (-1))))
          else
            some (.inl (x3_117, x5_118 + (-1)))))
def lb_X9_part_81 (x2_18 : Int32) (f_h_now : Nat → Int32) (f_h_rule : Nat → Int32) (x3_93 : Int32) (x4_94 : Int32) : Option ((Int32 × Int32) ⊕ (Int32)) :=
  if x4_94 < 0 then
    some (.inr x3_93)
  else
    if x2_18 = 0 then
      k_b1 (k_lp (fun s => lb_X9_part_101 f_h_now f_h_rule x4_94 s.1 s.2) k_fuel (x3_93, (f_h_now 11) - 1)) fun x3_116 =>
      some (.inl (x3_116, x4_94 + (-1)))
    else
      some (.inr x3_93)
def lb_X9_part_8 (f_h_now : Nat → Int32) (f_h_rule : Nat → Int32) (a1 : Int32) (x2_127 : Int32) (x3_128 : Int32) (x4_129 : Int32) : Option ((Int32 × Int32 × Int32) ⊕ (Int32 × Int32)) :=
  if (f_h_now 11) ≤ x4_129 then
    some (.inr (x2_127, x3_128))
  else
    k_ix (67 + x4_129) 169 (
      if (f_h_now (67 + x4_129).toNatClampNeg) = 1 then
        k_b1 (p_X9_ropeOf f_h_now f_h_rule x4_129 (f_h_now 1)) fun r134 =>
        k_b1 (p_X9_may f_h_now x4_129 a1) fun r135 =>
        if (r134 - r135) ≤ x2_127 then
          some (.inl (x2_127, x3_128, x4_129 + 1))
        else
          some (.inl (r134 - r135, x4_129, x4_129 + 1))
      else
        if 0 ≤ x2_127 then
          some (.inl (x2_127, x3_128, x4_129 + 1))
        else
          some (.inl (0, x4_129, x4_129 + 1)))
def p_X9_part (f_h_now : Nat → Int32) (f_h_rule : Nat → Int32) (a1 : Int32) : Option ((Nat → Int32)) :=
  k_b2 (k_lp (fun s => lb_X9_part_8 f_h_now f_h_rule a1 s.1 s.2.1 s.2.2) k_fuel (0, (-4), 0)) fun x2_18 x3_19 =>
  k_b1 (k_lp (fun s => lb_X9_part_81 x2_18 f_h_now f_h_rule s.1 s.2) k_fuel (x3_19, 2)) fun x3_86 =>
  if x3_86 = (-4) then
    k_b1 (p_X9_wholes f_h_now) fun r88 =>
    if r88 = 0 then
      some (upd f_h_now 1 0)
    else
      some f_h_now
  else
    k_ix (67 + x3_86) 169 (
      k_b1 (p_X9_wholes (upd (upd f_h_now (67 + x3_86).toNatClampNeg 0) 8 (((upd f_h_now (67 + x3_86).toNatClampNeg 0) 8) + 1))) fun r91 =>
      if r91 = 0 then
        some (upd (upd (upd f_h_now (67 + x3_86).toNatClampNeg 0) 8 (((upd f_h_now (67 + x3_86).toNatClampNeg 0) 8) + 1)) 1 0)
      else
        some (upd (upd f_h_now (67 + x3_86).toNatClampNeg 0) 8 (((upd f_h_now (67 + x3_86).toNatClampNeg 0) 8) + 1)))
def lb_X9_pass_434 (f_h_rule : Nat → Int32) (r1 : Int32) (c_h_now_163 : Nat → Int32) : Option (((Nat → Int32)) ⊕ ((Nat → Int32))) :=
  k_b1 (p_X9_holds c_h_now_163 f_h_rule (c_h_now_163 1) r1) fun r164 =>
  if r164 = 0 then
    k_b1 (p_X9_part c_h_now_163 f_h_rule r1) fun w_h_now_166 =>
    some (.inl w_h_now_166)
  else
    some (.inr c_h_now_163)
def lj_X9_pass_432 (f_h_rule : Nat → Int32) (r1 : Int32) (c_h_now_135 : Nat → Int32) (x3_134 : Int32) (t152 : Int32) : Option ((Nat → Int32)) :=
  k_b1 (k_lp (fun s => lb_X9_pass_434 f_h_rule r1 s) k_fuel (upd (upd c_h_now_135 7 ((c_h_now_135 7) + ((f_h_rule 3) - x3_134))) 2 (((upd c_h_now_135 7 ((c_h_now_135 7) + ((f_h_rule 3) - x3_134))) 2) + t152))) fun c_h_now_162 =>
  some (upd (upd (upd c_h_now_162 0 ((c_h_now_162 0) + 1)) 3 0) 4 0)
def lb_X9_pass_334 (c_h_now_135 : Nat → Int32) (f_h_rule : Nat → Int32) (x3_134 : Int32) (f_h_tide : Nat → Int32) (x4_169 : Int32) (x5_170 : Int32) : Option ((Int32 × Int32) ⊕ (Int32)) :=
  if ((upd c_h_now_135 7 ((c_h_now_135 7) + ((f_h_rule 3) - x3_134))) 12) ≤ x5_170 then
    some (.inr x4_169)
  else
    k_ix (145 + x5_170) 169 (
      if ((upd c_h_now_135 7 ((c_h_now_135 7) + ((f_h_rule 3) - x3_134))) (145 + x5_170).toNatClampNeg) = 1 then
        k_b1 (p_X9_isBare (upd c_h_now_135 7 ((c_h_now_135 7) + ((f_h_rule 3) - x3_134))) f_h_tide x5_170 ((upd c_h_now_135 7 ((c_h_now_135 7) + ((f_h_rule 3) - x3_134))) 0)) fun r174 =>
        if r174 = 0 then
          some (.inl (x4_169 + 10, x5_170 + 1))
        else
          some (.inl (x4_169 + 0, x5_170 + 1))
      else
        some (.inl (x4_169 + 0, x5_170 + 1)))
def lj_X9_pass_290 (x4_177 : Int32) (x3_176 : Int32) (c_h_now_196 : Nat → Int32) (t203 : Int32) : Option ((Int32 × Int32 × (Nat → Int32)) ⊕ (Int32 × (Nat → Int32))) :=
  k_ix (145 + x4_177) 169 (
    k_ix (97 + x4_177) 169 (
      k_lt (x3_176 - ((upd (upd c_h_now_196 (157 + x4_177).toNatClampNeg ((c_h_now_196 (157 + x4_177).toNatClampNeg) + 1)) (145 + x4_177).toNatClampNeg t203) (97 + x4_177).toNatClampNeg)) fun y207 =>
      some (.inl (y207, x4_177 + 1, upd (upd c_h_now_196 (157 + x4_177).toNatClampNeg ((c_h_now_196 (157 + x4_177).toNatClampNeg) + 1)) (145 + x4_177).toNatClampNeg t203))))
def lj_X9_pass_236 (x4_177 : Int32) (x3_176 : Int32) (c_h_now_196 : Nat → Int32) : Option ((Int32 × Int32 × (Nat → Int32)) ⊕ (Int32 × (Nat → Int32))) :=
  k_ix (157 + x4_177) 169 (
    k_ix (157 + x4_177) 169 (
      k_ix (157 + x4_177) 169 (
        k_ix (109 + x4_177) 169 (
          if ((upd c_h_now_196 (157 + x4_177).toNatClampNeg ((c_h_now_196 (157 + x4_177).toNatClampNeg) + 1)) (157 + x4_177).toNatClampNeg) = ((upd c_h_now_196 (157 + x4_177).toNatClampNeg ((c_h_now_196 (157 + x4_177).toNatClampNeg) + 1)) (109 + x4_177).toNatClampNeg) then
            lj_X9_pass_290 x4_177 x3_176 c_h_now_196 2
          else
            lj_X9_pass_290 x4_177 x3_176 c_h_now_196 1))))
def lj_X9_pass_290_1 (x4_177 : Int32) (x3_176 : Int32) (c_h_now_221 : Nat → Int32) (t228 : Int32) : Option ((Int32 × Int32 × (Nat → Int32)) ⊕ (Int32 × (Nat → Int32))) :=
  k_ix (145 + x4_177) 169 (
    k_ix (97 + x4_177) 169 (
      k_lt (x3_176 - ((upd (upd c_h_now_221 (157 + x4_177).toNatClampNeg ((c_h_now_221 (157 + x4_177).toNatClampNeg) + 1)) (145 + x4_177).toNatClampNeg t228) (97 + x4_177).toNatClampNeg)) fun y232 =>
      some (.inl (y232, x4_177 + 1, upd (upd c_h_now_221 (157 + x4_177).toNatClampNeg ((c_h_now_221 (157 + x4_177).toNatClampNeg) + 1)) (145 + x4_177).toNatClampNeg t228))))
def lj_X9_pass_236_1 (x4_177 : Int32) (x3_176 : Int32) (c_h_now_221 : Nat → Int32) : Option ((Int32 × Int32 × (Nat → Int32)) ⊕ (Int32 × (Nat → Int32))) :=
  k_ix (157 + x4_177) 169 (
    k_ix (157 + x4_177) 169 (
      k_ix (157 + x4_177) 169 (
        k_ix (109 + x4_177) 169 (
          if ((upd c_h_now_221 (157 + x4_177).toNatClampNeg ((c_h_now_221 (157 + x4_177).toNatClampNeg) + 1)) (157 + x4_177).toNatClampNeg) = ((upd c_h_now_221 (157 + x4_177).toNatClampNeg ((c_h_now_221 (157 + x4_177).toNatClampNeg) + 1)) (109 + x4_177).toNatClampNeg) then
            lj_X9_pass_290_1 x4_177 x3_176 c_h_now_221 2
          else
            lj_X9_pass_290_1 x4_177 x3_176 c_h_now_221 1))))
def lb_X9_pass_21 (a1 : Int32) (r1 : Int32) (f_h_tide : Nat → Int32) (x3_176 : Int32) (x4_177 : Int32) (c_h_now_178 : Nat → Int32) : Option ((Int32 × Int32 × (Nat → Int32)) ⊕ (Int32 × (Nat → Int32))) :=
  if (c_h_now_178 12) ≤ x4_177 then
    some (.inr (x3_176, c_h_now_178))
  else
    if ((a1 >>> (x4_177 &&& 31)) &&& 1) = 1 then
      if r1 = 0 then
        k_b1 (p_X9_isBare c_h_now_178 f_h_tide x4_177 (c_h_now_178 0)) fun r182 =>
        if r182 = 0 then
          some (.inl (x3_176, x4_177 + 1, c_h_now_178))
        else
          k_ix (97 + x4_177) 169 (
            if x3_176 < (c_h_now_178 (97 + x4_177).toNatClampNeg) then
              some (.inl (x3_176, x4_177 + 1, c_h_now_178))
            else
              k_ix (145 + x4_177) 169 (
                if (c_h_now_178 (145 + x4_177).toNatClampNeg) = 2 then
                  some (.inl (x3_176, x4_177 + 1, c_h_now_178))
                else
                  k_ix (145 + x4_177) 169 (
                    if (c_h_now_178 (145 + x4_177).toNatClampNeg) = 0 then
                      k_ix (145 + x4_177) 169 (
                        k_ix (97 + x4_177) 169 (
                          k_lt (x3_176 - ((upd c_h_now_178 (145 + x4_177).toNatClampNeg 1) (97 + x4_177).toNatClampNeg)) fun y242 =>
                          some (.inl (y242, x4_177 + 1, upd c_h_now_178 (145 + x4_177).toNatClampNeg 1))))
                    else
                      k_ix (157 + x4_177) 169 (
                        if 0 < (c_h_now_178 (157 + x4_177).toNatClampNeg) then
                          k_ix (157 + x4_177) 169 (
                            if (c_h_now_178 (157 + x4_177).toNatClampNeg) = 0 then
                              k_ix (121 + x4_177) 169 (
                                k_ix (121 + x4_177) 169 (
                                  lj_X9_pass_236 x4_177 x3_176 (upd (upd c_h_now_178 5 ((c_h_now_178 5) - (c_h_now_178 (121 + x4_177).toNatClampNeg))) 6 (((upd c_h_now_178 5 ((c_h_now_178 5) - (c_h_now_178 (121 + x4_177).toNatClampNeg))) 6) + ((upd c_h_now_178 5 ((c_h_now_178 5) - (c_h_now_178 (121 + x4_177).toNatClampNeg))) (121 + x4_177).toNatClampNeg)))))
                            else
                              lj_X9_pass_236 x4_177 x3_176 c_h_now_178)
                        else
                          k_ix (121 + x4_177) 169 (
                            if (c_h_now_178 5) < (c_h_now_178 (121 + x4_177).toNatClampNeg) then
                              some (.inl (x3_176, x4_177 + 1, c_h_now_178))
                            else
                              k_ix (157 + x4_177) 169 (
                                if (c_h_now_178 (157 + x4_177).toNatClampNeg) = 0 then
                                  k_ix (121 + x4_177) 169 (
                                    k_ix (121 + x4_177) 169 (
                                      lj_X9_pass_236_1 x4_177 x3_176 (upd (upd c_h_now_178 5 ((c_h_now_178 5) - (c_h_now_178 (121 + x4_177).toNatClampNeg))) 6 (((upd c_h_now_178 5 ((c_h_now_178 5) - (c_h_now_178 (121 + x4_177).toNatClampNeg))) 6) + ((upd c_h_now_178 5 ((c_h_now_178 5) - (c_h_now_178 (121 + x4_177).toNatClampNeg))) (121 + x4_177).toNatClampNeg)))))
                                else
                                  lj_X9_pass_236_1 x4_177 x3_176 c_h_now_178))))))
      else
        some (.inl (x3_176, x4_177 + 1, c_h_now_178))
    else
      some (.inl (x3_176, x4_177 + 1, c_h_now_178))
def p_X9_pass (f_h_now : Nat → Int32) (f_h_rain : Nat → Int32) (f_h_rule : Nat → Int32) (f_h_tide : Nat → Int32) (a1 : Int32) : Option ((Nat → Int32)) :=
  k_b1 (p_X9_rains f_h_rain (f_h_now 0)) fun r1 =>
  k_b2 (k_lp (fun s => lb_X9_pass_21 a1 r1 f_h_tide s.1 s.2.1 s.2.2) k_fuel (f_h_rule 3, 0, f_h_now)) fun x3_134 c_h_now_135 =>
  k_b1 (k_lp (fun s => lb_X9_pass_334 c_h_now_135 f_h_rule x3_134 f_h_tide s.1 s.2) k_fuel (0, 0)) fun x4_149 =>
  if x4_149 ≤ 0 then
    if 5 ≤ ((upd c_h_now_135 7 ((c_h_now_135 7) + ((f_h_rule 3) - x3_134))) 2) then
      lj_X9_pass_432 f_h_rule r1 c_h_now_135 x3_134 (-5)
    else
      lj_X9_pass_432 f_h_rule r1 c_h_now_135 x3_134 (-((upd c_h_now_135 7 ((c_h_now_135 7) + ((f_h_rule 3) - x3_134))) 2))
  else
    lj_X9_pass_432 f_h_rule r1 c_h_now_135 x3_134 x4_149
def p_X9_hour (f_h_now : Nat → Int32) (f_h_rain : Nat → Int32) (f_h_rule : Nat → Int32) (f_h_tide : Nat → Int32) (a1 : Int32) : Option (Int32 × Int32 × (Nat → Int32)) :=
  k_b1 (p_X9_in ((a1).toInt64) 0 (((1 <<< ((f_h_now 12) &&& 31)) - 1).toInt64)) fun r1 =>
  if r1 = 0 then
    some ((-1), 0, f_h_now)
  else
    k_b1 (p_X9_isLost f_h_now) fun r3 =>
    if r3 = 0 then
      if (f_h_now 0) ≤ 95 then
        k_b1 (p_X9_pass f_h_now f_h_rain f_h_rule f_h_tide a1) fun w_h_now_6 =>
        some (w_h_now_6 2, 0, w_h_now_6)
      else
        some ((-2), 0, f_h_now)
    else
      some ((-2), 0, f_h_now)
def p_X9_rig (f_h_now : Nat → Int32) (f_h_rain : Nat → Int32) (f_h_rule : Nat → Int32) (a1 : Int32) (a2 : Int32) : Option (Int32 × Int32 × (Nat → Int32)) :=
  k_b1 (p_X9_in ((a1).toInt64) 0 (((f_h_now 11) - 1).toInt64)) fun r1 =>
  if r1 = 0 then
    some ((-1), 0, f_h_now)
  else
    k_ix (67 + a1) 169 (
      if a2 = 0 then
        k_ix (67 + a1) 169 (
          k_b1 (p_X9_rains f_h_rain ((upd f_h_now (67 + a1).toNatClampNeg 0) 0)) fun r6 =>
          k_b1 (p_X9_holds (upd f_h_now (67 + a1).toNatClampNeg 0) f_h_rule ((upd f_h_now (67 + a1).toNatClampNeg 0) 1) r6) fun r7 =>
          if r7 = 0 then
            k_ix (67 + a1) 169 (
              some ((-2), 0, upd (upd f_h_now (67 + a1).toNatClampNeg 0) (67 + a1).toNatClampNeg (f_h_now (67 + a1).toNatClampNeg)))
          else
            some (f_h_now (67 + a1).toNatClampNeg, 0, upd f_h_now (67 + a1).toNatClampNeg 0))
      else
        k_ix (67 + a1) 169 (
          k_b1 (p_X9_rains f_h_rain ((upd f_h_now (67 + a1).toNatClampNeg 1) 0)) fun r11 =>
          k_b1 (p_X9_holds (upd f_h_now (67 + a1).toNatClampNeg 1) f_h_rule ((upd f_h_now (67 + a1).toNatClampNeg 1) 1) r11) fun r12 =>
          if r12 = 0 then
            k_ix (67 + a1) 169 (
              some ((-2), 0, upd (upd f_h_now (67 + a1).toNatClampNeg 1) (67 + a1).toNatClampNeg (f_h_now (67 + a1).toNatClampNeg)))
          else
            some (f_h_now (67 + a1).toNatClampNeg, 0, upd f_h_now (67 + a1).toNatClampNeg 1)))
def p_X9_hoursFor (f_h_now : Nat → Int32) (a1 : Int32) : Option (Int32) :=
  k_ix (145 + a1) 169 (
    if (f_h_now (145 + a1).toNatClampNeg) = 0 then
      k_ix (109 + a1) 169 (
        k_ix (157 + a1) 169 (
          some ((1 + (f_h_now (109 + a1).toNatClampNeg)) - (f_h_now (157 + a1).toNatClampNeg))))
    else
      k_ix (109 + a1) 169 (
        k_ix (157 + a1) 169 (
          some ((0 + (f_h_now (109 + a1).toNatClampNeg)) - (f_h_now (157 + a1).toNatClampNeg)))))
def lb_X9_isPlan_158 (v_h_counted : Int32) (f_h_begins : Nat → Int32) (x3_197 : Int32) (f_h_now : Nat → Int32) (f_h_counts : Nat → Int32) (x4_222 : Int32) (x5_223 : Int32) : Option ((Int32 × Int32) ⊕ (Int32)) :=
  if v_h_counted ≤ x5_223 then
    some (.inr x4_222)
  else
    k_ix x5_223 5 (
      if (f_h_begins x5_223.toNatClampNeg) < 0 then
        some (.inl (x4_222 + 0, x5_223 + 1))
      else
        k_ix x5_223 5 (
          if x3_197 < (f_h_begins x5_223.toNatClampNeg) then
            some (.inl (x4_222 + 0, x5_223 + 1))
          else
            k_ix x5_223 5 (
              k_ix x5_223 5 (
                k_b1 (p_X9_hoursFor f_h_now (f_h_counts x5_223.toNatClampNeg)) fun r231 =>
                if ((f_h_begins x5_223.toNatClampNeg) + r231) ≤ x3_197 then
                  some (.inl (x4_222 + 0, x5_223 + 1))
                else
                  k_ix x5_223 5 (
                    k_ix (97 + (f_h_counts x5_223.toNatClampNeg)) 169 (
                      k_lt (x4_222 + (f_h_now (97 + (f_h_counts x5_223.toNatClampNeg)).toNatClampNeg)) fun y235 =>
                      some (.inl (y235, x5_223 + 1))))))))
def lb_X9_isPlan_147 (a1 : Int32) (v_h_counted : Int32) (f_h_begins : Nat → Int32) (f_h_now : Nat → Int32) (f_h_counts : Nat → Int32) (f_h_rule : Nat → Int32) (x3_197 : Int32) : Option ((Int32) ⊕ ((Int32) ⊕ (Unit))) :=
  if a1 ≤ x3_197 then
    some (.inr (.inr ()))
  else
    k_b1 (k_lp (fun s => lb_X9_isPlan_158 v_h_counted f_h_begins x3_197 f_h_now f_h_counts s.1 s.2) k_fuel (0, 0)) fun x4_220 =>
    if x4_220 ≤ (f_h_rule 3) then
      some (.inl (x3_197 + 1))
    else
      some (.inr (.inl 0))
def lb_X9_isPlan_82 (f_h_now : Nat → Int32) (f_h_counts : Nat → Int32) (x3_237 : Int32) (f_h_rain : Nat → Int32) (f_h_begins : Nat → Int32) (f_h_tide : Nat → Int32) (x5_263 : Int32) : Option ((Int32) ⊕ ((Int32) ⊕ (Unit))) :=
  k_b1 (p_X9_hoursFor f_h_now (f_h_counts x3_237.toNatClampNeg)) fun r264 =>
  if r264 ≤ x5_263 then
    some (.inr (.inr ()))
  else
    k_ix x3_237 5 (
      k_b1 (p_X9_rains f_h_rain (((f_h_now 0) + (f_h_begins x3_237.toNatClampNeg)) + x5_263)) fun r267 =>
      if r267 = 0 then
        k_b1 (p_X9_isBare f_h_now f_h_tide (f_h_counts x3_237.toNatClampNeg) (((f_h_now 0) + (f_h_begins x3_237.toNatClampNeg)) + x5_263)) fun r269 =>
        if r269 = 0 then
          some (.inr (.inl 0))
        else
          some (.inl (x5_263 + 1))
      else
        some (.inr (.inl 0)))
def lb_X9_isPlan_82_1 (f_h_now : Nat → Int32) (f_h_counts : Nat → Int32) (x3_237 : Int32) (f_h_rain : Nat → Int32) (f_h_begins : Nat → Int32) (f_h_tide : Nat → Int32) (x5_292 : Int32) : Option ((Int32) ⊕ ((Int32) ⊕ (Unit))) :=
  k_b1 (p_X9_hoursFor f_h_now (f_h_counts x3_237.toNatClampNeg)) fun r293 =>
  if r293 ≤ x5_292 then
    some (.inr (.inr ()))
  else
    k_ix x3_237 5 (
      k_b1 (p_X9_rains f_h_rain (((f_h_now 0) + (f_h_begins x3_237.toNatClampNeg)) + x5_292)) fun r296 =>
      if r296 = 0 then
        k_b1 (p_X9_isBare f_h_now f_h_tide (f_h_counts x3_237.toNatClampNeg) (((f_h_now 0) + (f_h_begins x3_237.toNatClampNeg)) + x5_292)) fun r298 =>
        if r298 = 0 then
          some (.inr (.inl 0))
        else
          some (.inl (x5_292 + 1))
      else
        some (.inr (.inl 0)))
def lb_X9_isPlan_4 (v_h_counted : Int32) (f_h_begins : Nat → Int32) (f_h_counts : Nat → Int32) (f_h_now : Nat → Int32) (a1 : Int32) (f_h_rain : Nat → Int32) (f_h_tide : Nat → Int32) (x2_236 : Int32) (x3_237 : Int32) : Option ((Int32 × Int32) ⊕ ((Int32) ⊕ (Int32))) :=
  if v_h_counted ≤ x3_237 then
    some (.inr (.inr x2_236))
  else
    k_ix x3_237 5 (
      k_ix x3_237 5 (
        if (f_h_begins x3_237.toNatClampNeg) < 0 then
          some (.inl (x2_236, x3_237 + 1))
        else
          k_ix (157 + (f_h_counts x3_237.toNatClampNeg)) 169 (
            if (f_h_now (157 + (f_h_counts x3_237.toNatClampNeg)).toNatClampNeg) = 0 then
              k_ix (121 + (f_h_counts x3_237.toNatClampNeg)) 169 (
                k_lt (x2_236 + (f_h_now (121 + (f_h_counts x3_237.toNatClampNeg)).toNatClampNeg)) fun y272 =>
                k_ix x3_237 5 (
                  k_b1 (p_X9_hoursFor f_h_now (f_h_counts x3_237.toNatClampNeg)) fun r274 =>
                  if ((f_h_begins x3_237.toNatClampNeg) + r274) ≤ a1 then
                    k_bx0 (k_lp (fun s => lb_X9_isPlan_82_1 f_h_now f_h_counts x3_237 f_h_rain f_h_begins f_h_tide s) k_fuel 0) (fun q => some (.inr (.inl q))) (
                      some (.inl (y272, x3_237 + 1)))
                  else
                    some (.inr (.inl 0))))
            else
              k_ix x3_237 5 (
                k_b1 (p_X9_hoursFor f_h_now (f_h_counts x3_237.toNatClampNeg)) fun r245 =>
                if ((f_h_begins x3_237.toNatClampNeg) + r245) ≤ a1 then
                  k_bx0 (k_lp (fun s => lb_X9_isPlan_82 f_h_now f_h_counts x3_237 f_h_rain f_h_begins f_h_tide s) k_fuel 0) (fun q => some (.inr (.inl q))) (
                    some (.inl (x2_236 + 0, x3_237 + 1)))
                else
                  some (.inr (.inl 0))))))
def p_X9_isPlan (v_h_counted : Int32) (f_h_counts : Nat → Int32) (f_h_begins : Nat → Int32) (f_h_now : Nat → Int32) (f_h_rain : Nat → Int32) (f_h_tide : Nat → Int32) (f_h_rule : Nat → Int32) (a1 : Int32) : Option (Int32) :=
  k_bx1 (k_lp (fun s => lb_X9_isPlan_4 v_h_counted f_h_begins f_h_counts f_h_now a1 f_h_rain f_h_tide s.1 s.2) k_fuel (0, 0)) (fun q => some q) fun x2_117 =>
  k_bx0 (k_lp (fun s => lb_X9_isPlan_147 a1 v_h_counted f_h_begins f_h_now f_h_counts f_h_rule s) k_fuel 0) (fun q => some q) (
    if (f_h_now 5) < x2_117 then
      some 0
    else
      some 1)
def lb_X9_findPlan_362 (c_h_begins_456 : Nat → Int32) (x9_465 : Int32) (c_h_best_466 : Nat → Int32) : Option ((Int32 × (Nat → Int32)) ⊕ ((Nat → Int32))) :=
  if 5 ≤ x9_465 then
    some (.inr c_h_best_466)
  else
    k_ix x9_465 5 (
      k_ix x9_465 5 (
        some (.inl (x9_465 + 1, upd c_h_best_466 x9_465.toNatClampNeg (c_h_begins_456 x9_465.toNatClampNeg)))))
def lb_X9_findPlan_278 (x2_353 : Int32) (a1 : Int32) (x10_494 : Int32) (x11_495 : Int32) (c_h_begins_496 : Nat → Int32) : Option ((Int32 × Int32 × (Nat → Int32)) ⊕ ((Nat → Int32))) :=
  if x11_495 < 0 then
    some (.inr c_h_begins_496)
  else
    k_ix x11_495 5 (
      if ((x2_353 >>> (x11_495 &&& 31)) &&& 1) = 1 then
        k_ck (¬ a1 = 0) (
          k_ix x11_495 5 (
            k_ck (¬ a1 = 0) (
              some (.inl (x10_494 / a1, x11_495 + (-1), upd (upd c_h_begins_496 x11_495.toNatClampNeg (-1)) x11_495.toNatClampNeg (x10_494 - x10_494 / a1 * a1))))))
      else
        some (.inl (x10_494, x11_495 + (-1), upd c_h_begins_496 x11_495.toNatClampNeg (-1))))
def lb_X9_findPlan_249 (x6_384 : Int32) (t390 : Int32) (x2_353 : Int32) (a1 : Int32) (c_h_counted_14 : Int32) (c_h_counts_13 : Nat → Int32) (f_h_now : Nat → Int32) (f_h_rain : Nat → Int32) (f_h_tide : Nat → Int32) (f_h_rule : Nat → Int32) (x8_470 : Int32) (x9_471 : Int32) (c_h_begins_472 : Nat → Int32) : Option ((Int32 × Int32 × (Nat → Int32)) ⊕ (Int32 × (Nat → Int32))) :=
  if x6_384 ≤ x9_471 then
    some (.inr (x8_470, c_h_begins_472))
  else
    if t390 = 0 then
      some (.inr (x8_470, c_h_begins_472))
    else
      if x8_470 = 0 then
        k_b1 (k_lp (fun s => lb_X9_findPlan_278 x2_353 a1 s.1 s.2.1 s.2.2) k_fuel (x9_471, c_h_counted_14 - 1, c_h_begins_472)) fun c_h_begins_492 =>
        k_b1 (p_X9_isPlan c_h_counted_14 c_h_counts_13 c_h_begins_492 f_h_now f_h_rain f_h_tide f_h_rule a1) fun r493 =>
        some (.inl (r493, x9_471 + 1, c_h_begins_492))
      else
        some (.inr (x8_470, c_h_begins_472))
def lj_X9_findPlan_241 (x6_384 : Int32) (x2_353 : Int32) (a1 : Int32) (c_h_counted_14 : Int32) (c_h_counts_13 : Nat → Int32) (f_h_now : Nat → Int32) (f_h_rain : Nat → Int32) (f_h_tide : Nat → Int32) (f_h_rule : Nat → Int32) (c_h_begins_354 : Nat → Int32) (c_h_best_355 : Nat → Int32) (c_h_bestBits_356 : Int32) (c_h_bestPitch_357 : Int32) (c_h_bestWorth_358 : Int32) (x5_383 : Int32) (x4_382 : Int32) (x3_381 : Int32) (t390 : Int32) : Option ((Int32 × (Nat → Int32) × (Nat → Int32) × Int32 × Int32 × Int32) ⊕ ((Nat → Int32) × (Nat → Int32) × Int32 × Int32 × Int32)) :=
  k_b2 (k_lp (fun s => lb_X9_findPlan_249 x6_384 t390 x2_353 a1 c_h_counted_14 c_h_counts_13 f_h_now f_h_rain f_h_tide f_h_rule s.1 s.2.1 s.2.2) k_fuel (0, 0, c_h_begins_354)) fun x8_455 c_h_begins_456 =>
  if x8_455 = 0 then
    some (.inl (x2_353 + 1, c_h_begins_456, c_h_best_355, c_h_bestBits_356, c_h_bestPitch_357, c_h_bestWorth_358))
  else
    k_b1 (k_lp (fun s => lb_X9_findPlan_362 c_h_begins_456 s.1 s.2) k_fuel (0, c_h_best_355)) fun c_h_best_464 =>
    some (.inl (x2_353 + 1, c_h_begins_456, c_h_best_464, x5_383, x4_382, x3_381))
def lb_X9_findPlan_97 (c_h_counted_14 : Int32) (x2_353 : Int32) (c_h_counts_13 : Nat → Int32) (f_h_now : Nat → Int32) (a1 : Int32) (x3_508 : Int32) (x4_509 : Int32) (x5_510 : Int32) (x6_511 : Int32) (x7_512 : Int32) : Option ((Int32 × Int32 × Int32 × Int32 × Int32) ⊕ (Int32 × Int32 × Int32 × Int32)) :=
  if c_h_counted_14 ≤ x7_512 then
    some (.inr (x3_508, x4_509, x5_510, x6_511))
  else
    if ((x2_353 >>> (x7_512 &&& 31)) &&& 1) = 1 then
      k_ix x7_512 5 (
        k_ix (133 + (c_h_counts_13 x7_512.toNatClampNeg)) 169 (
          k_lt (x3_508 + (f_h_now (133 + (c_h_counts_13 x7_512.toNatClampNeg)).toNatClampNeg)) fun y517 =>
          k_ix (157 + (c_h_counts_13 x7_512.toNatClampNeg)) 169 (
            if (f_h_now (157 + (c_h_counts_13 x7_512.toNatClampNeg)).toNatClampNeg) = 0 then
              k_ix (121 + (c_h_counts_13 x7_512.toNatClampNeg)) 169 (
                k_lt (x4_509 + (f_h_now (121 + (c_h_counts_13 x7_512.toNatClampNeg)).toNatClampNeg)) fun y521 =>
                some (.inl (y517, y521, x5_510 ||| (1 <<< ((c_h_counts_13 x7_512.toNatClampNeg) &&& 31)), x6_511 * a1, x7_512 + 1)))
            else
              some (.inl (y517, x4_509 + 0, x5_510 ||| (1 <<< ((c_h_counts_13 x7_512.toNatClampNeg) &&& 31)), x6_511 * a1, x7_512 + 1)))))
    else
      some (.inl (x3_508, x4_509, x5_510, x6_511, x7_512 + 1))
def lb_X9_findPlan_73 (c_h_counted_14 : Int32) (c_h_counts_13 : Nat → Int32) (f_h_now : Nat → Int32) (a1 : Int32) (f_h_rain : Nat → Int32) (f_h_tide : Nat → Int32) (f_h_rule : Nat → Int32) (x2_353 : Int32) (c_h_begins_354 : Nat → Int32) (c_h_best_355 : Nat → Int32) (c_h_bestBits_356 : Int32) (c_h_bestPitch_357 : Int32) (c_h_bestWorth_358 : Int32) : Option ((Int32 × (Nat → Int32) × (Nat → Int32) × Int32 × Int32 × Int32) ⊕ ((Nat → Int32) × (Nat → Int32) × Int32 × Int32 × Int32)) :=
  if (1 <<< (c_h_counted_14 &&& 31)) ≤ x2_353 then
    some (.inr (c_h_begins_354, c_h_best_355, c_h_bestBits_356, c_h_bestPitch_357, c_h_bestWorth_358))
  else
    k_b4 (k_lp (fun s => lb_X9_findPlan_97 c_h_counted_14 x2_353 c_h_counts_13 f_h_now a1 s.1 s.2.1 s.2.2.1 s.2.2.2.1 s.2.2.2.2) k_fuel (0, 0, 0, 1, 0)) fun x3_381 x4_382 x5_383 x6_384 =>
    if c_h_bestWorth_358 < x3_381 then
      lj_X9_findPlan_241 x6_384 x2_353 a1 c_h_counted_14 c_h_counts_13 f_h_now f_h_rain f_h_tide f_h_rule c_h_begins_354 c_h_best_355 c_h_bestBits_356 c_h_bestPitch_357 c_h_bestWorth_358 x5_383 x4_382 x3_381 1
    else
      if x3_381 = c_h_bestWorth_358 then
        if x4_382 < c_h_bestPitch_357 then
          lj_X9_findPlan_241 x6_384 x2_353 a1 c_h_counted_14 c_h_counts_13 f_h_now f_h_rain f_h_tide f_h_rule c_h_begins_354 c_h_best_355 c_h_bestBits_356 c_h_bestPitch_357 c_h_bestWorth_358 x5_383 x4_382 x3_381 1
        else
          if x4_382 = c_h_bestPitch_357 then
            if c_h_bestBits_356 ≤ x5_383 then
              lj_X9_findPlan_241 x6_384 x2_353 a1 c_h_counted_14 c_h_counts_13 f_h_now f_h_rain f_h_tide f_h_rule c_h_begins_354 c_h_best_355 c_h_bestBits_356 c_h_bestPitch_357 c_h_bestWorth_358 x5_383 x4_382 x3_381 0
            else
              lj_X9_findPlan_241 x6_384 x2_353 a1 c_h_counted_14 c_h_counts_13 f_h_now f_h_rain f_h_tide f_h_rule c_h_begins_354 c_h_best_355 c_h_bestBits_356 c_h_bestPitch_357 c_h_bestWorth_358 x5_383 x4_382 x3_381 1
          else
            lj_X9_findPlan_241 x6_384 x2_353 a1 c_h_counted_14 c_h_counts_13 f_h_now f_h_rain f_h_tide f_h_rule c_h_begins_354 c_h_best_355 c_h_bestBits_356 c_h_bestPitch_357 c_h_bestWorth_358 x5_383 x4_382 x3_381 0
      else
        lj_X9_findPlan_241 x6_384 x2_353 a1 c_h_counted_14 c_h_counts_13 f_h_now f_h_rain f_h_tide f_h_rule c_h_begins_354 c_h_best_355 c_h_bestBits_356 c_h_bestPitch_357 c_h_bestWorth_358 x5_383 x4_382 x3_381 0
def lb_X9_findPlan_7 (f_h_now : Nat → Int32) (x2_522 : Int32) (c_h_counts_523 : Nat → Int32) (c_h_counted_524 : Int32) : Option ((Int32 × (Nat → Int32) × Int32) ⊕ ((Nat → Int32) × Int32)) :=
  if (f_h_now 12) ≤ x2_522 then
    some (.inr (c_h_counts_523, c_h_counted_524))
  else
    if 5 ≤ c_h_counted_524 then
      some (.inl (x2_522 + 1, c_h_counts_523, c_h_counted_524))
    else
      k_ix (145 + x2_522) 169 (
        if (f_h_now (145 + x2_522).toNatClampNeg) = 2 then
          some (.inl (x2_522 + 1, c_h_counts_523, c_h_counted_524))
        else
          k_ix c_h_counted_524 5 (
            some (.inl (x2_522 + 1, upd c_h_counts_523 c_h_counted_524.toNatClampNeg x2_522, c_h_counted_524 + 1))))
def p_X9_findPlan (v_h_bestPitch : Int32) (v_h_bestBits : Int32) (f_h_now : Nat → Int32) (f_h_counts : Nat → Int32) (f_h_begins : Nat → Int32) (f_h_rain : Nat → Int32) (f_h_tide : Nat → Int32) (f_h_rule : Nat → Int32) (f_h_best : Nat → Int32) (a1 : Int32) : Option (Int32 × Int32 × Int32 × Int32 × (Nat → Int32) × (Nat → Int32) × (Nat → Int32)) :=
  k_b2 (k_lp (fun s => lb_X9_findPlan_7 f_h_now s.1 s.2.1 s.2.2) k_fuel (0, f_h_counts, 0)) fun c_h_counts_13 c_h_counted_14 =>
  k_b5 (k_lp (fun s => lb_X9_findPlan_73 c_h_counted_14 c_h_counts_13 f_h_now a1 f_h_rain f_h_tide f_h_rule s.1 s.2.1 s.2.2.1 s.2.2.2.1 s.2.2.2.2.1 s.2.2.2.2.2) k_fuel (0, f_h_begins, f_h_best, v_h_bestBits, v_h_bestPitch, (-1))) fun c_h_begins_348 c_h_best_349 c_h_bestBits_350 c_h_bestPitch_351 c_h_bestWorth_352 =>
  some (c_h_counted_14, c_h_bestWorth_352, c_h_bestPitch_351, c_h_bestBits_350, c_h_counts_13, c_h_begins_348, c_h_best_349)
def lb_X9_plan_105 (w_h_counted_8 : Int32) (w_h_counts_12 : Nat → Int32) (a2 : Int32) (w_h_best_14 : Nat → Int32) (x3_29 : Int32) (x4_30 : Int32) : Option ((Int32 × Int32) ⊕ (Int32)) :=
  if w_h_counted_8 ≤ x4_30 then
    some (.inr x3_29)
  else
    k_ix x4_30 5 (
      if (w_h_counts_12 x4_30.toNatClampNeg) = (a2 - 3) then
        k_ix x4_30 5 (
          if (w_h_best_14 x4_30.toNatClampNeg) < 0 then
            some (.inl (x3_29, x4_30 + 1))
          else
            k_ix x4_30 5 (
              some (.inl (w_h_best_14 x4_30.toNatClampNeg, x4_30 + 1))))
      else
        some (.inl (x3_29, x4_30 + 1)))
def p_X9_plan (v_h_counted : Int32) (v_h_bestWorth : Int32) (v_h_bestPitch : Int32) (v_h_bestBits : Int32) (f_h_now : Nat → Int32) (f_h_counts : Nat → Int32) (f_h_begins : Nat → Int32) (f_h_rain : Nat → Int32) (f_h_tide : Nat → Int32) (f_h_rule : Nat → Int32) (f_h_best : Nat → Int32) (a1 : Int32) (a2 : Int32) : Option (Int32 × Int32 × Int32 × Int32 × Int32 × Int32 × (Nat → Int32) × (Nat → Int32) × (Nat → Int32)) :=
  k_b1 (p_X9_in ((a1).toInt64) 1 6) fun r1 =>
  if r1 = 0 then
    some ((-1), 0, v_h_counted, v_h_bestWorth, v_h_bestPitch, v_h_bestBits, f_h_counts, f_h_begins, f_h_best)
  else
    k_b1 (p_X9_in ((a2).toInt64) 0 ((2 + (f_h_now 12)).toInt64)) fun r3 =>
    if r3 = 0 then
      some ((-1), 0, v_h_counted, v_h_bestWorth, v_h_bestPitch, v_h_bestBits, f_h_counts, f_h_begins, f_h_best)
    else
      k_b1 (p_X9_isLost f_h_now) fun r5 =>
      if r5 = 0 then
        if ((f_h_now 0) + a1) ≤ 96 then
          k_b7 (p_X9_findPlan v_h_bestPitch v_h_bestBits f_h_now f_h_counts f_h_begins f_h_rain f_h_tide f_h_rule f_h_best a1) fun w_h_counted_8 w_h_bestWorth_9 w_h_bestPitch_10 w_h_bestBits_11 w_h_counts_12 w_h_begins_13 w_h_best_14 =>
          if 3 ≤ a2 then
            k_b1 (k_lp (fun s => lb_X9_plan_105 w_h_counted_8 w_h_counts_12 a2 w_h_best_14 s.1 s.2) k_fuel ((-4), 0)) fun x3_28 =>
            some (x3_28, 0, w_h_counted_8, w_h_bestWorth_9, w_h_bestPitch_10, w_h_bestBits_11, w_h_counts_12, w_h_begins_13, w_h_best_14)
          else
            if a2 = 0 then
              some (w_h_bestWorth_9, 0, w_h_counted_8, w_h_bestWorth_9, w_h_bestPitch_10, w_h_bestBits_11, w_h_counts_12, w_h_begins_13, w_h_best_14)
            else
              if a2 = 1 then
                some (w_h_bestPitch_10, 0, w_h_counted_8, w_h_bestWorth_9, w_h_bestPitch_10, w_h_bestBits_11, w_h_counts_12, w_h_begins_13, w_h_best_14)
              else
                some (w_h_bestBits_11, 0, w_h_counted_8, w_h_bestWorth_9, w_h_bestPitch_10, w_h_bestBits_11, w_h_counts_12, w_h_begins_13, w_h_best_14)
        else
          some ((-2), 0, v_h_counted, v_h_bestWorth, v_h_bestPitch, v_h_bestBits, f_h_counts, f_h_begins, f_h_best)
      else
        some ((-2), 0, v_h_counted, v_h_bestWorth, v_h_bestPitch, v_h_bestBits, f_h_counts, f_h_begins, f_h_best)
def lb_X9_orders_65 (w_h_counted_8 : Int32) (w_h_best_14 : Nat → Int32) (a2 : Int32) (f_h_now : Nat → Int32) (w_h_counts_12 : Nat → Int32) (x3_34 : Int32) (x4_35 : Int32) : Option ((Int32 × Int32) ⊕ (Int32)) :=
  if w_h_counted_8 ≤ x4_35 then
    some (.inr x3_34)
  else
    k_ix x4_35 5 (
      if (w_h_best_14 x4_35.toNatClampNeg) < 0 then
        some (.inl (x3_34 ||| 0, x4_35 + 1))
      else
        k_ix x4_35 5 (
          if a2 < (w_h_best_14 x4_35.toNatClampNeg) then
            some (.inl (x3_34 ||| 0, x4_35 + 1))
          else
            k_ix x4_35 5 (
              k_ix x4_35 5 (
                k_b1 (p_X9_hoursFor f_h_now (w_h_counts_12 x4_35.toNatClampNeg)) fun r43 =>
                if ((w_h_best_14 x4_35.toNatClampNeg) + r43) ≤ a2 then
                  some (.inl (x3_34 ||| 0, x4_35 + 1))
                else
                  k_ix x4_35 5 (
                    some (.inl (x3_34 ||| (1 <<< ((w_h_counts_12 x4_35.toNatClampNeg) &&& 31)), x4_35 + 1)))))))
def p_X9_orders (v_h_counted : Int32) (v_h_bestWorth : Int32) (v_h_bestPitch : Int32) (v_h_bestBits : Int32) (f_h_now : Nat → Int32) (f_h_counts : Nat → Int32) (f_h_begins : Nat → Int32) (f_h_rain : Nat → Int32) (f_h_tide : Nat → Int32) (f_h_rule : Nat → Int32) (f_h_best : Nat → Int32) (a1 : Int32) (a2 : Int32) : Option (Int32 × Int32 × Int32 × Int32 × Int32 × Int32 × (Nat → Int32) × (Nat → Int32) × (Nat → Int32)) :=
  k_b1 (p_X9_in ((a1).toInt64) 1 6) fun r1 =>
  if r1 = 0 then
    some ((-1), 0, v_h_counted, v_h_bestWorth, v_h_bestPitch, v_h_bestBits, f_h_counts, f_h_begins, f_h_best)
  else
    k_b1 (p_X9_in ((a2).toInt64) 0 ((a1 - 1).toInt64)) fun r3 =>
    if r3 = 0 then
      some ((-1), 0, v_h_counted, v_h_bestWorth, v_h_bestPitch, v_h_bestBits, f_h_counts, f_h_begins, f_h_best)
    else
      k_b1 (p_X9_isLost f_h_now) fun r5 =>
      if r5 = 0 then
        if ((f_h_now 0) + a1) ≤ 96 then
          k_b7 (p_X9_findPlan v_h_bestPitch v_h_bestBits f_h_now f_h_counts f_h_begins f_h_rain f_h_tide f_h_rule f_h_best a1) fun w_h_counted_8 w_h_bestWorth_9 w_h_bestPitch_10 w_h_bestBits_11 w_h_counts_12 w_h_begins_13 w_h_best_14 =>
          k_b1 (k_lp (fun s => lb_X9_orders_65 w_h_counted_8 w_h_best_14 a2 f_h_now w_h_counts_12 s.1 s.2) k_fuel (0, 0)) fun x3_33 =>
          some (x3_33, 0, w_h_counted_8, w_h_bestWorth_9, w_h_bestPitch_10, w_h_bestBits_11, w_h_counts_12, w_h_begins_13, w_h_best_14)
        else
          some ((-2), 0, v_h_counted, v_h_bestWorth, v_h_bestPitch, v_h_bestBits, f_h_counts, f_h_begins, f_h_best)
      else
        some ((-2), 0, v_h_counted, v_h_bestWorth, v_h_bestPitch, v_h_bestBits, f_h_counts, f_h_begins, f_h_best)
def lj_X9_findFloat_466 (x10_440 : Int32) (x9_451 : Int32) (c_h_leastHour_452 : Int32) (c_h_leastSet_453 : Int32) : Option ((Int32 × Int32 × Int32 × Int32) ⊕ (Int32 × Int32)) :=
  some (.inl (x10_440 + 1, x9_451, c_h_leastHour_452, c_h_leastSet_453))
def lb_X9_findFloat_405 (x5_398 : Int32) (f_h_rule : Nat → Int32) (f_h_tide : Nat → Int32) (x6_399 : Int32) (x4_349 : Int32) (x10_440 : Int32) (x9_441 : Int32) (c_h_leastHour_442 : Int32) (c_h_leastSet_443 : Int32) : Option ((Int32 × Int32 × Int32 × Int32) ⊕ (Int32 × Int32)) :=
  if 96 ≤ x10_440 then
    some (.inr (c_h_leastHour_442, c_h_leastSet_443))
  else
    if x5_398 = 0 then
      some (.inr (c_h_leastHour_442, c_h_leastSet_443))
    else
      if x9_441 = 0 then
        k_b1 (p_X9_floats f_h_rule f_h_tide x10_440 x6_399) fun r455 =>
        if r455 = 0 then
          lj_X9_findFloat_466 x10_440 x9_441 c_h_leastHour_442 c_h_leastSet_443
        else
          if c_h_leastHour_442 = (-4) then
            lj_X9_findFloat_466 x10_440 1 x10_440 x4_349
          else
            if c_h_leastHour_442 ≤ x10_440 then
              lj_X9_findFloat_466 x10_440 1 c_h_leastHour_442 c_h_leastSet_443
            else
              lj_X9_findFloat_466 x10_440 1 x10_440 x4_349
      else
        some (.inr (c_h_leastHour_442, c_h_leastSet_443))
def lj_X9_findFloat_396 (x5_398 : Int32) (f_h_rule : Nat → Int32) (f_h_tide : Nat → Int32) (x6_399 : Int32) (x4_349 : Int32) (c_h_leastHour_350 : Int32) (c_h_leastSet_351 : Int32) (t402 : Int32) : Option ((Int32 × Int32 × Int32) ⊕ (Int32 × Int32)) :=
  k_b2 (k_lp (fun s => lb_X9_findFloat_405 x5_398 f_h_rule f_h_tide x6_399 x4_349 s.1 s.2.1 s.2.2.1 s.2.2.2) k_fuel (t402, 0, c_h_leastHour_350, c_h_leastSet_351)) fun c_h_leastHour_438 c_h_leastSet_439 =>
  some (.inl (x4_349 + 1, c_h_leastHour_438, c_h_leastSet_439))
def lj_X9_findFloat_352 (x8_463 : Int32) (x6_461 : Int32) (c_h_now_82 : Nat → Int32) (x7_462 : Int32) (t474 : Int32) : Option ((Int32 × Int32 × Int32 × Int32) ⊕ (Int32 × Int32 × Int32)) :=
  k_ix (13 + x8_463) 169 (
    some (.inl (t474, x6_461 + (c_h_now_82 (13 + x8_463).toNatClampNeg), x7_462 + 1, x8_463 + 1)))
def lb_X9_findFloat_264 (c_h_now_82 : Nat → Int32) (x4_349 : Int32) (x5_460 : Int32) (x6_461 : Int32) (x7_462 : Int32) (x8_463 : Int32) : Option ((Int32 × Int32 × Int32 × Int32) ⊕ (Int32 × Int32 × Int32)) :=
  if (c_h_now_82 10) ≤ x8_463 then
    some (.inr (x5_460, x6_461, x7_462))
  else
    if ((x4_349 >>> (x8_463 &&& 31)) &&& 1) = 1 then
      k_ix (25 + x8_463) 169 (
        if x5_460 = 0 then
          lj_X9_findFloat_352 x8_463 x6_461 c_h_now_82 x7_462 0
        else
          k_ix (37 + x8_463) 169 (
            if (c_h_now_82 (37 + x8_463).toNatClampNeg) = 0 then
              if (c_h_now_82 (25 + x8_463).toNatClampNeg) < 0 then
                lj_X9_findFloat_352 x8_463 x6_461 c_h_now_82 x7_462 1
              else
                k_ix (37 + (c_h_now_82 (25 + x8_463).toNatClampNeg)) 169 (
                  if (c_h_now_82 (37 + (c_h_now_82 (25 + x8_463).toNatClampNeg)).toNatClampNeg) = 1 then
                    lj_X9_findFloat_352 x8_463 x6_461 c_h_now_82 x7_462 1
                  else
                    if ((x4_349 >>> ((c_h_now_82 (25 + x8_463).toNatClampNeg) &&& 31)) &&& 1) = 1 then
                      lj_X9_findFloat_352 x8_463 x6_461 c_h_now_82 x7_462 1
                    else
                      lj_X9_findFloat_352 x8_463 x6_461 c_h_now_82 x7_462 0)
            else
              lj_X9_findFloat_352 x8_463 x6_461 c_h_now_82 x7_462 0))
    else
      some (.inl (x5_460, x6_461, x7_462, x8_463 + 1))
def lb_X9_findFloat_231 (c_h_now_82 : Nat → Int32) (t71 : Int32) (f_h_rule : Nat → Int32) (f_h_now : Nat → Int32) (c_h_now_67 : Nat → Int32) (t74 : Int32) (f_h_tide : Nat → Int32) (x4_349 : Int32) (c_h_leastHour_350 : Int32) (c_h_leastSet_351 : Int32) : Option ((Int32 × Int32 × Int32) ⊕ (Int32 × Int32)) :=
  if (1 <<< ((c_h_now_82 10) &&& 31)) ≤ x4_349 then
    some (.inr (c_h_leastHour_350, c_h_leastSet_351))
  else
    if t71 = 0 then
      some (.inr (c_h_leastHour_350, c_h_leastSet_351))
    else
      k_b1 (p_X9_total f_h_rule c_h_now_82) fun r354 =>
      k_b3 (k_lp (fun s => lb_X9_findFloat_264 c_h_now_82 x4_349 s.1 s.2.1 s.2.2.1 s.2.2.2) k_fuel (1, r354, 0, 0)) fun x5_398 x6_399 x7_400 =>
      if ((f_h_now 0) + x7_400) ≤ ((c_h_now_67 0) + t74) then
        lj_X9_findFloat_396 x5_398 f_h_rule f_h_tide x6_399 x4_349 c_h_leastHour_350 c_h_leastSet_351 ((c_h_now_67 0) + t74)
      else
        lj_X9_findFloat_396 x5_398 f_h_rule f_h_tide x6_399 x4_349 c_h_leastHour_350 c_h_leastSet_351 ((f_h_now 0) + x7_400)
def lb_X9_findFloat_200 (c_h_aside_7 : Nat → Int32) (x4_484 : Int32) (c_h_now_485 : Nat → Int32) : Option ((Int32 × (Nat → Int32)) ⊕ ((Nat → Int32))) :=
  if 169 ≤ x4_484 then
    some (.inr c_h_now_485)
  else
    k_ix x4_484 169 (
      k_ix x4_484 169 (
        some (.inl (x4_484 + 1, upd c_h_now_485 x4_484.toNatClampNeg (c_h_aside_7 x4_484.toNatClampNeg)))))
def lj_X9_findFloat_195 (c_h_aside_7 : Nat → Int32) (c_h_now_67 : Nat → Int32) (t71 : Int32) (f_h_rule : Nat → Int32) (f_h_now : Nat → Int32) (f_h_tide : Nat → Int32) (v_h_leastSet : Int32) (t74 : Int32) : Option (Int32 × Int32 × Int32 × (Nat → Int32) × (Nat → Int32)) :=
  k_b1 (k_lp (fun s => lb_X9_findFloat_200 c_h_aside_7 s.1 s.2) k_fuel (0, c_h_now_67)) fun c_h_now_82 =>
  k_b2 (k_lp (fun s => lb_X9_findFloat_231 c_h_now_82 t71 f_h_rule f_h_now c_h_now_67 t74 f_h_tide s.1 s.2.1 s.2.2) k_fuel (0, (-4), v_h_leastSet)) fun c_h_leastHour_347 c_h_leastSet_348 =>
  some (c_h_leastHour_347, c_h_leastSet_348, c_h_now_67 0, c_h_now_82, c_h_aside_7)
def lj_X9_findFloat_155 (c_h_now_67 : Nat → Int32) (c_h_aside_7 : Nat → Int32) (f_h_rule : Nat → Int32) (f_h_now : Nat → Int32) (f_h_tide : Nat → Int32) (v_h_leastSet : Int32) (t71 : Int32) : Option (Int32 × Int32 × Int32 × (Nat → Int32) × (Nat → Int32)) :=
  if 0 ≤ (c_h_now_67 1) then
    lj_X9_findFloat_195 c_h_aside_7 c_h_now_67 t71 f_h_rule f_h_now f_h_tide v_h_leastSet (c_h_now_67 1)
  else
    lj_X9_findFloat_195 c_h_aside_7 c_h_now_67 t71 f_h_rule f_h_now f_h_tide v_h_leastSet (-(c_h_now_67 1))
def lj_X9_findFloat_126 (c_h_now_494 : Nat → Int32) (f_h_rain : Nat → Int32) (f_h_rule : Nat → Int32) (f_h_tide : Nat → Int32) (x3_507 : Int32) (t511 : Int32) : Option ((Int32 × (Nat → Int32)) ⊕ (Int32 × (Nat → Int32))) :=
  if t511 = 0 then
    some (.inl (t511, c_h_now_494))
  else
    k_b1 (p_X9_pass c_h_now_494 f_h_rain f_h_rule f_h_tide x3_507) fun w_h_now_514 =>
    some (.inl (t511, w_h_now_514))
def lb_X9_findFloat_59 (c_h_now_494 : Nat → Int32) (x3_518 : Int32) (x4_519 : Int32) : Option ((Int32 × Int32) ⊕ (Int32)) :=
  if (c_h_now_494 12) ≤ x4_519 then
    some (.inr x3_518)
  else
    k_ix (145 + x4_519) 169 (
      if (c_h_now_494 (145 + x4_519).toNatClampNeg) = 1 then
        some (.inl (x3_518 ||| (1 <<< (x4_519 &&& 31)), x4_519 + 1))
      else
        some (.inl (x3_518 ||| 0, x4_519 + 1)))
def lb_X9_findFloat_42 (f_h_rain : Nat → Int32) (f_h_rule : Nat → Int32) (f_h_tide : Nat → Int32) (x2_493 : Int32) (c_h_now_494 : Nat → Int32) : Option ((Int32 × (Nat → Int32)) ⊕ (Int32 × (Nat → Int32))) :=
  if x2_493 = 0 then
    some (.inr (x2_493, c_h_now_494))
  else
    k_b1 (p_X9_states c_h_now_494 1) fun r496 =>
    if r496 ≤ 0 then
      some (.inr (x2_493, c_h_now_494))
    else
      k_b1 (k_lp (fun s => lb_X9_findFloat_59 c_h_now_494 s.1 s.2) k_fuel (0, 0)) fun x3_507 =>
      k_b1 (p_X9_isLost c_h_now_494) fun r515 =>
      if r515 = 0 then
        if 96 ≤ (c_h_now_494 0) then
          lj_X9_findFloat_126 c_h_now_494 f_h_rain f_h_rule f_h_tide x3_507 0
        else
          lj_X9_findFloat_126 c_h_now_494 f_h_rain f_h_rule f_h_tide x3_507 1
      else
        lj_X9_findFloat_126 c_h_now_494 f_h_rain f_h_rule f_h_tide x3_507 0
def lb_X9_findFloat_9 (f_h_now : Nat → Int32) (x2_523 : Int32) (c_h_aside_524 : Nat → Int32) : Option ((Int32 × (Nat → Int32)) ⊕ ((Nat → Int32))) :=
  if 169 ≤ x2_523 then
    some (.inr c_h_aside_524)
  else
    k_ix x2_523 169 (
      k_ix x2_523 169 (
        some (.inl (x2_523 + 1, upd c_h_aside_524 x2_523.toNatClampNeg (f_h_now x2_523.toNatClampNeg)))))
def p_X9_findFloat (v_h_leastSet : Int32) (f_h_now : Nat → Int32) (f_h_aside : Nat → Int32) (f_h_rain : Nat → Int32) (f_h_rule : Nat → Int32) (f_h_tide : Nat → Int32) : Option (Int32 × Int32 × Int32 × (Nat → Int32) × (Nat → Int32)) :=
  k_b1 (k_lp (fun s => lb_X9_findFloat_9 f_h_now s.1 s.2) k_fuel (0, f_h_aside)) fun c_h_aside_7 =>
  k_b2 (k_lp (fun s => lb_X9_findFloat_42 f_h_rain f_h_rule f_h_tide s.1 s.2) k_fuel (1, f_h_now)) fun x2_66 c_h_now_67 =>
  if x2_66 = 0 then
    lj_X9_findFloat_155 c_h_now_67 c_h_aside_7 f_h_rule f_h_now f_h_tide v_h_leastSet 0
  else
    k_b1 (p_X9_isLost c_h_now_67) fun r491 =>
    if r491 = 0 then
      lj_X9_findFloat_155 c_h_now_67 c_h_aside_7 f_h_rule f_h_now f_h_tide v_h_leastSet 1
    else
      lj_X9_findFloat_155 c_h_now_67 c_h_aside_7 f_h_rule f_h_now f_h_tide v_h_leastSet 0
def lb_X9_toFloat_23 (f_h_now : Nat → Int32) (x2_22 : Int32) (x3_23 : Int32) : Option ((Int32 × Int32) ⊕ (Int32)) :=
  if (f_h_now 10) ≤ x3_23 then
    some (.inr x2_22)
  else
    k_ix (37 + x3_23) 169 (
      some (.inl (x2_22 + (1 - (f_h_now (37 + x3_23).toNatClampNeg)), x3_23 + 1)))
def p_X9_toFloat (v_h_leastHour : Int32) (v_h_leastSet : Int32) (v_h_shut : Int32) (f_h_now : Nat → Int32) (f_h_aside : Nat → Int32) (f_h_rain : Nat → Int32) (f_h_rule : Nat → Int32) (f_h_tide : Nat → Int32) (a1 : Int32) : Option (Int32 × Int32 × Int32 × Int32 × Int32 × (Nat → Int32) × (Nat → Int32)) :=
  k_b1 (p_X9_in ((a1).toInt64) 0 2) fun r1 =>
  if r1 = 0 then
    some ((-1), 0, v_h_leastHour, v_h_leastSet, v_h_shut, f_h_now, f_h_aside)
  else
    k_b1 (k_lp (fun s => lb_X9_toFloat_23 f_h_now s.1 s.2) k_fuel (0, 0)) fun x2_10 =>
    if 8 < x2_10 then
      some ((-2), 0, v_h_leastHour, v_h_leastSet, v_h_shut, f_h_now, f_h_aside)
    else
      k_b1 (p_X9_isLost f_h_now) fun r12 =>
      if r12 = 0 then
        k_b5 (p_X9_findFloat v_h_leastSet f_h_now f_h_aside f_h_rain f_h_rule f_h_tide) fun w_h_leastHour_14 w_h_leastSet_15 w_h_shut_16 w_h_now_17 w_h_aside_18 =>
        if w_h_leastHour_14 = (-4) then
          some ((-4), 0, w_h_leastHour_14, w_h_leastSet_15, w_h_shut_16, w_h_now_17, w_h_aside_18)
        else
          if a1 = 0 then
            some (w_h_leastHour_14, 0, w_h_leastHour_14, w_h_leastSet_15, w_h_shut_16, w_h_now_17, w_h_aside_18)
          else
            if a1 = 1 then
              some (w_h_leastSet_15, 0, w_h_leastHour_14, w_h_leastSet_15, w_h_shut_16, w_h_now_17, w_h_aside_18)
            else
              some (w_h_shut_16, 0, w_h_leastHour_14, w_h_leastSet_15, w_h_shut_16, w_h_now_17, w_h_aside_18)
      else
        some ((-2), 0, v_h_leastHour, v_h_leastSet, v_h_shut, f_h_now, f_h_aside)
def p_X9_tap (f_h_planks : Nat → Int32) (a1 : Int32) (a2 : Int32) : Option (Int32 × Int32 × (Nat → Int32)) :=
  k_b1 (p_X9_in ((a1).toInt64) 0 29) fun r1 =>
  if r1 = 0 then
    some ((-100), 0, f_h_planks)
  else
    k_b1 (p_X9_in ((a2).toInt64) (-1) 1) fun r3 =>
    if r3 = 0 then
      some ((-100), 0, f_h_planks)
    else
      k_ix a1 30 (
        k_ix a1 30 (
          some (f_h_planks a1.toNatClampNeg, 0, upd f_h_planks a1.toNatClampNeg a2)))
def lj_X9_worm_298 (t74 : Int32) : Option (Int32 × Int32) :=
  some (t74, 0)
def lj_X9_worm_259 (t96 : Int32) (x5_81 : Int32) (t101 : Int32) : Option ((Int32 × Int32 × Int32) ⊕ (Int32 × Int32)) :=
  some (.inl (t101, t96, x5_81 + 1))
def lj_X9_worm_227 (x5_81 : Int32) (f_h_planks : Nat → Int32) (a2 : Int32) (t91 : Int32) (t96 : Int32) : Option ((Int32 × Int32 × Int32) ⊕ (Int32 × Int32)) :=
  k_ix x5_81 30 (
    if (f_h_planks x5_81.toNatClampNeg) = 1 then
      if a2 = 2 then
        lj_X9_worm_259 t96 x5_81 1000
      else
        lj_X9_worm_259 t96 x5_81 (-1000)
    else
      lj_X9_worm_259 t96 x5_81 t91)
def lj_X9_worm_196 (x5_81 : Int32) (f_h_planks : Nat → Int32) (a2 : Int32) (t86 : Int32) (t91 : Int32) : Option ((Int32 × Int32 × Int32) ⊕ (Int32 × Int32)) :=
  k_ix x5_81 30 (
    if (f_h_planks x5_81.toNatClampNeg) = 0 then
      if a2 = 2 then
        lj_X9_worm_227 x5_81 f_h_planks a2 t91 1000
      else
        lj_X9_worm_227 x5_81 f_h_planks a2 t91 (-1000)
    else
      lj_X9_worm_227 x5_81 f_h_planks a2 t91 t86)
def lj_X9_worm_162 (a2 : Int32) (x3_79 : Int32) (x4_80 : Int32) (x5_81 : Int32) (f_h_planks : Nat → Int32) (t86 : Int32) : Option ((Int32 × Int32 × Int32) ⊕ (Int32 × Int32)) :=
  if a2 = 2 then
    if x3_79 ≤ x4_80 then
      lj_X9_worm_196 x5_81 f_h_planks a2 t86 x3_79
    else
      lj_X9_worm_196 x5_81 f_h_planks a2 t86 x4_80
  else
    if x4_80 ≤ x3_79 then
      lj_X9_worm_196 x5_81 f_h_planks a2 t86 x3_79
    else
      lj_X9_worm_196 x5_81 f_h_planks a2 t86 x4_80
def lb_X9_worm_111 (a1 : Int32) (a2 : Int32) (f_h_planks : Nat → Int32) (x3_79 : Int32) (x4_80 : Int32) (x5_81 : Int32) : Option ((Int32 × Int32 × Int32) ⊕ (Int32 × Int32)) :=
  if a1 ≤ x5_81 then
    some (.inr (x3_79, x4_80))
  else
    if a2 = 2 then
      if x4_80 ≤ (x3_79 + 1) then
        lj_X9_worm_162 a2 x3_79 x4_80 x5_81 f_h_planks x4_80
      else
        lj_X9_worm_162 a2 x3_79 x4_80 x5_81 f_h_planks (x3_79 + 1)
    else
      if (x3_79 + 1) ≤ x4_80 then
        lj_X9_worm_162 a2 x3_79 x4_80 x5_81 f_h_planks x4_80
      else
        lj_X9_worm_162 a2 x3_79 x4_80 x5_81 f_h_planks (x3_79 + 1)
def lj_X9_worm_298_1 (t182 : Int32) : Option (Int32 × Int32) :=
  some (t182, 0)
def lj_X9_worm_259_1 (t204 : Int32) (x5_189 : Int32) (t209 : Int32) : Option ((Int32 × Int32 × Int32) ⊕ (Int32 × Int32)) :=
  some (.inl (t209, t204, x5_189 + 1))
def lj_X9_worm_227_1 (x5_189 : Int32) (f_h_planks : Nat → Int32) (a2 : Int32) (t199 : Int32) (t204 : Int32) : Option ((Int32 × Int32 × Int32) ⊕ (Int32 × Int32)) :=
  k_ix x5_189 30 (
    if (f_h_planks x5_189.toNatClampNeg) = 1 then
      if a2 = 2 then
        lj_X9_worm_259_1 t204 x5_189 1000
      else
        lj_X9_worm_259_1 t204 x5_189 (-1000)
    else
      lj_X9_worm_259_1 t204 x5_189 t199)
def lj_X9_worm_196_1 (x5_189 : Int32) (f_h_planks : Nat → Int32) (a2 : Int32) (t194 : Int32) (t199 : Int32) : Option ((Int32 × Int32 × Int32) ⊕ (Int32 × Int32)) :=
  k_ix x5_189 30 (
    if (f_h_planks x5_189.toNatClampNeg) = 0 then
      if a2 = 2 then
        lj_X9_worm_227_1 x5_189 f_h_planks a2 t199 1000
      else
        lj_X9_worm_227_1 x5_189 f_h_planks a2 t199 (-1000)
    else
      lj_X9_worm_227_1 x5_189 f_h_planks a2 t199 t194)
def lj_X9_worm_162_1 (a2 : Int32) (x3_187 : Int32) (x4_188 : Int32) (x5_189 : Int32) (f_h_planks : Nat → Int32) (t194 : Int32) : Option ((Int32 × Int32 × Int32) ⊕ (Int32 × Int32)) :=
  if a2 = 2 then
    if x3_187 ≤ x4_188 then
      lj_X9_worm_196_1 x5_189 f_h_planks a2 t194 x3_187
    else
      lj_X9_worm_196_1 x5_189 f_h_planks a2 t194 x4_188
  else
    if x4_188 ≤ x3_187 then
      lj_X9_worm_196_1 x5_189 f_h_planks a2 t194 x3_187
    else
      lj_X9_worm_196_1 x5_189 f_h_planks a2 t194 x4_188
def lb_X9_worm_111_1 (a1 : Int32) (a2 : Int32) (f_h_planks : Nat → Int32) (x3_187 : Int32) (x4_188 : Int32) (x5_189 : Int32) : Option ((Int32 × Int32 × Int32) ⊕ (Int32 × Int32)) :=
  if a1 ≤ x5_189 then
    some (.inr (x3_187, x4_188))
  else
    if a2 = 2 then
      if x4_188 ≤ (x3_187 + 1) then
        lj_X9_worm_162_1 a2 x3_187 x4_188 x5_189 f_h_planks x4_188
      else
        lj_X9_worm_162_1 a2 x3_187 x4_188 x5_189 f_h_planks (x3_187 + 1)
    else
      if (x3_187 + 1) ≤ x4_188 then
        lj_X9_worm_162_1 a2 x3_187 x4_188 x5_189 f_h_planks x4_188
      else
        lj_X9_worm_162_1 a2 x3_187 x4_188 x5_189 f_h_planks (x3_187 + 1)
def lb_X9_worm_41 (a1 : Int32) (f_h_planks : Nat → Int32) (a2 : Int32) (x3_237 : Int32) (x4_238 : Int32) : Option ((Int32 × Int32) ⊕ (Int32)) :=
  if a1 ≤ x4_238 then
    some (.inr x3_237)
  else
    k_ix x4_238 30 (
      if (f_h_planks x4_238.toNatClampNeg) = 1 then
        some (.inl (x3_237 + 1, x4_238 + 1))
      else
        if a2 = 1 then
          k_ix x4_238 30 (
            if (f_h_planks x4_238.toNatClampNeg) = (-1) then
              some (.inl (x3_237 + 1, x4_238 + 1))
            else
              some (.inl (x3_237 + 0, x4_238 + 1)))
        else
          some (.inl (x3_237 + 0, x4_238 + 1)))
def p_X9_worm (f_h_planks : Nat → Int32) (a1 : Int32) (a2 : Int32) : Option (Int32 × Int32) :=
  k_b1 (p_X9_in ((a1).toInt64) 1 30) fun r1 =>
  if r1 = 0 then
    some ((-1), 0)
  else
    k_b1 (p_X9_in ((a2).toInt64) 0 3) fun r3 =>
    if r3 = 0 then
      some ((-1), 0)
    else
      if 2 ≤ a2 then
        if a2 = 2 then
          k_b2 (k_lp (fun s => lb_X9_worm_111_1 a1 a2 f_h_planks s.1 s.2.1 s.2.2) k_fuel (0, 1000, 0)) fun x3_177 x4_178 =>
          if a2 = 2 then
            if x4_178 ≤ x3_177 then
              lj_X9_worm_298_1 x4_178
            else
              lj_X9_worm_298_1 x3_177
          else
            if x3_177 ≤ x4_178 then
              lj_X9_worm_298_1 x4_178
            else
              lj_X9_worm_298_1 x3_177
        else
          k_b2 (k_lp (fun s => lb_X9_worm_111 a1 a2 f_h_planks s.1 s.2.1 s.2.2) k_fuel (0, (-1000), 0)) fun x3_69 x4_70 =>
          if a2 = 2 then
            if x4_70 ≤ x3_69 then
              lj_X9_worm_298 x4_70
            else
              lj_X9_worm_298 x3_69
          else
            if x3_69 ≤ x4_70 then
              lj_X9_worm_298 x4_70
            else
              lj_X9_worm_298 x3_69
      else
        k_b1 (k_lp (fun s => lb_X9_worm_41 a1 f_h_planks a2 s.1 s.2) k_fuel (0, 0)) fun x3_236 =>
        some (x3_236, 0)
def lb_X9_book_80 (f_h_now : Nat → Int32) (x2_18 : Int32) (x3_19 : Int32) : Option ((Int32 × Int32) ⊕ (Int32)) :=
  if (f_h_now 12) ≤ x3_19 then
    some (.inr x2_18)
  else
    k_ix (145 + x3_19) 169 (
      if (f_h_now (145 + x3_19).toNatClampNeg) = 2 then
        k_ix (133 + x3_19) 169 (
          some (.inl (x2_18 + (f_h_now (133 + x3_19).toNatClampNeg), x3_19 + 1)))
      else
        some (.inl (x2_18 + 0, x3_19 + 1)))
def p_X9_book (f_h_now : Nat → Int32) (a1 : Int32) : Option (Int32 × Int32) :=
  if a1 = 0 then
    some (f_h_now 6, 0)
  else
  if a1 = 1 then
    some (f_h_now 7, 0)
  else
  if a1 = 2 then
    some (f_h_now 8, 0)
  else
  if a1 = 3 then
    some (f_h_now 9, 0)
  else
  if a1 = 4 then
    k_b1 (k_lp (fun s => lb_X9_book_80 f_h_now s.1 s.2) k_fuel (0, 0)) fun x2_17 =>
    some (x2_17, 0)
  else
  if a1 = 5 then
    some (f_h_now 5, 0)
  else
    some ((-1), 0)
def lb_X9_keep_18 (v_h_kept : Int32) (f_h_now : Nat → Int32) (x1_10 : Int32) (c_h_books_11 : Nat → Int32) : Option ((Int32 × (Nat → Int32)) ⊕ ((Nat → Int32))) :=
  if 169 ≤ x1_10 then
    some (.inr c_h_books_11)
  else
    k_ix x1_10 169 (
      k_ix ((169 * v_h_kept) + x1_10) 507 (
        some (.inl (x1_10 + 1, upd c_h_books_11 ((169 * v_h_kept) + x1_10).toNatClampNeg (f_h_now x1_10.toNatClampNeg)))))
def p_X9_keep (v_h_kept : Int32) (f_h_now : Nat → Int32) (f_h_books : Nat → Int32) : Option (Int32 × Int32 × Int32 × (Nat → Int32)) :=
  if v_h_kept = 3 then
    some ((-3), 0, v_h_kept, f_h_books)
  else
    k_b1 (k_lp (fun s => lb_X9_keep_18 v_h_kept f_h_now s.1 s.2) k_fuel (0, f_h_books)) fun c_h_books_9 =>
    some (v_h_kept + 1, 0, v_h_kept + 1, c_h_books_9)
def lb_X9_back_27 (v_h_kept : Int32) (f_h_books : Nat → Int32) (x1_10 : Int32) (c_h_now_11 : Nat → Int32) : Option ((Int32 × (Nat → Int32)) ⊕ ((Nat → Int32))) :=
  if 169 ≤ x1_10 then
    some (.inr c_h_now_11)
  else
    k_ix ((169 * (v_h_kept - 1)) + x1_10) 507 (
      k_ix x1_10 169 (
        some (.inl (x1_10 + 1, upd c_h_now_11 x1_10.toNatClampNeg (f_h_books ((169 * (v_h_kept - 1)) + x1_10).toNatClampNeg)))))
def p_X9_back (v_h_kept : Int32) (f_h_books : Nat → Int32) (f_h_now : Nat → Int32) : Option (Int32 × Int32 × Int32 × (Nat → Int32)) :=
  if v_h_kept = 0 then
    some ((-2), 0, v_h_kept, f_h_now)
  else
    k_b1 (k_lp (fun s => lb_X9_back_27 v_h_kept f_h_books s.1 s.2) k_fuel (0, f_h_now)) fun c_h_now_9 =>
    some (v_h_kept - 1, 0, v_h_kept - 1, c_h_now_9)
def lb_X9_count_70 (f_h_now : Nat → Int32) (x2_11 : Int32) (x3_12 : Int32) : Option ((Int32 × Int32) ⊕ (Int32)) :=
  if (f_h_now 10) ≤ x3_12 then
    some (.inr x2_11)
  else
    k_ix (37 + x3_12) 169 (
      some (.inl (x2_11 + (f_h_now (37 + x3_12).toNatClampNeg), x3_12 + 1)))
def p_X9_count (v_h_kept : Int32) (f_h_now : Nat → Int32) (a1 : Int32) : Option (Int32 × Int32) :=
  if a1 = 0 then
    some (f_h_now 10, 0)
  else
  if a1 = 1 then
    k_b1 (k_lp (fun s => lb_X9_count_70 f_h_now s.1 s.2) k_fuel (0, 0)) fun x2_10 =>
    some (x2_10, 0)
  else
  if a1 = 2 then
    some (f_h_now 11, 0)
  else
  if a1 = 3 then
    k_b1 (p_X9_wholes f_h_now) fun r17 =>
    some (r17, 0)
  else
  if a1 = 4 then
    some (f_h_now 12, 0)
  else
  if a1 = 5 then
    k_b1 (p_X9_states f_h_now 1) fun r20 =>
    some (r20, 0)
  else
  if a1 = 6 then
    k_b1 (p_X9_states f_h_now 2) fun r22 =>
    some (r22, 0)
  else
  if a1 = 7 then
    some (f_h_now 0, 0)
  else
  if a1 = 8 then
    some (v_h_kept, 0)
  else
    some ((-1), 0)
def p_X8_keep_3r  : Option (Int32 × Int32) :=
  some ((-3), 3)
def p_X8_back_0r  : Option (Int32 × Int32) :=
  some ((-2), 0)
def lb_X5_init_54 (x1_17 : Int32) (c_q25_3_18 : Nat → Int32) : Option ((Int32 × (Nat → Int32)) ⊕ ((Nat → Int32))) :=
  if 8 ≤ x1_17 then
    some (.inr c_q25_3_18)
  else
    k_ix x1_17 8 (
      k_ix x1_17 8 (
        some (.inl (x1_17 + 1, upd c_q25_3_18 x1_17.toNatClampNeg (k_r0 x1_17.toNatClampNeg)))))
def lb_X5_init_32 (x1_22 : Int32) (c_q7_1_23 : Nat → Int32) : Option ((Int32 × (Nat → Int32)) ⊕ ((Nat → Int32))) :=
  if 96 ≤ x1_22 then
    some (.inr c_q7_1_23)
  else
    k_ix x1_22 96 (
      some (.inl (x1_22 + 1, upd c_q7_1_23 x1_22.toNatClampNeg 30)))
def p_X5_init : Option ((Nat → Int32) × (Nat → Int32)) :=
  k_b1 (k_lp (fun s => lb_X5_init_32 s.1 s.2) k_fuel (0, (fun _ => 0))) fun c_q7_1_9 =>
  k_b1 (k_lp (fun s => lb_X5_init_54 s.1 s.2) k_fuel (0, (fun _ => 0))) fun c_q25_3_16 =>
  some (c_q7_1_9, c_q25_3_16)
def lb_X1_init_14 (x1_8 : Int32) (c_q7_1_9 : Nat → Int32) : Option ((Int32 × (Nat → Int32)) ⊕ ((Nat → Int32))) :=
  if 30 ≤ x1_8 then
    some (.inr c_q7_1_9)
  else
    k_ix x1_8 30 (
      some (.inl (x1_8 + 1, upd c_q7_1_9 x1_8.toNatClampNeg (-1))))
def p_X1_init : Option ((Nat → Int32)) :=
  k_b1 (k_lp (fun s => lb_X1_init_14 s.1 s.2) k_fuel (0, (fun _ => 0))) fun c_q7_1_7 =>
  some c_q7_1_7
def lb_X9_init_275 (x1_17 : Int32) (c_q34_4_18 : Nat → Int32) : Option ((Int32 × (Nat → Int32)) ⊕ ((Nat → Int32))) :=
  if 96 ≤ x1_17 then
    some (.inr c_q34_4_18)
  else
    k_ix x1_17 96 (
      some (.inl (x1_17 + 1, upd c_q34_4_18 x1_17.toNatClampNeg 30)))
def p_X9_init : Option ((Nat → Int32)) :=
  k_b1 (k_lp (fun s => lb_X9_init_275 s.1 s.2) k_fuel (0, (fun _ => 0))) fun c_q34_4_16 =>
  some c_q34_4_16
def p_X8_rule (f_sr_rules : Nat → Int32) (v_h_now_pitch : Int32) (a1 : Int32) (a2 : Int32) : Option (Int32 × (Nat → Int32) × Int32) :=
  k_b1 (p_X8_within a1 0 (8 - 1)) fun r1 =>
  if r1 = 0 then
    some ((-1), f_sr_rules, v_h_now_pitch)
  else
    k_ix a1 8 (
      k_ix a1 8 (
        k_b1 (p_X8_within a2 (k_r1 a1.toNatClampNeg) (k_r2 a1.toNatClampNeg)) fun r5 =>
        if r5 = 0 then
          some ((-1), f_sr_rules, v_h_now_pitch)
        else
          if a1 = 4 then
            some (v_h_now_pitch, f_sr_rules, a2)
          else
            k_ix a1 8 (
              k_ix a1 8 (
                some (f_sr_rules a1.toNatClampNeg, upd f_sr_rules a1.toNatClampNeg a2, v_h_now_pitch)))))
def p_X8_init : Option ((Nat → Int32) × (Nat → Int32) × (Nat → Int32)) :=
  k_b2 (p_X5_init) fun w_2 w_3 =>
  k_b1 (p_X1_init) fun w_22 =>
  some (w_2, w_3, w_22)
