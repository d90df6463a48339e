/-! the methods as pure functions, by program out of the bytecode -/
def fX0_begin (σ : eSt) (a1 : Int32) (a2 : Int32) (a3 : Int32) : Option (eSt) :=
  e_bnd (e_up σ 9 0 a1) fun σ1 =>
  e_bnd (e_up σ1 9 1 0) fun σ2 =>
  e_bnd (e_up σ2 9 2 0) fun σ3 =>
  e_bnd (e_up σ3 9 3 10) fun σ4 =>
  e_bnd (e_up σ4 9 4 10) fun σ5 =>
  e_bnd (e_up σ5 9 5 a2) fun σ6 =>
  e_bnd (e_up σ6 9 6 a3) fun σ7 =>
  some σ7
def fX0_hammerCount_14 (σ : eSt) (s0 : Int32) : Option (Int32) :=
  if (σ 9 4) = 10 then
    some (s0 + 0)
  else
    some (s0 + 1)
def fX0_hammerCount (σ : eSt) : Option (Int32) :=
  if (σ 9 3) = 10 then
    fX0_hammerCount_14 σ 0
  else
    fX0_hammerCount_14 σ 1
def fX0_putHammer (σ : eSt) (a1 : Int32) : Option (eSt) :=
  if (σ 9 3) = 10 then
    e_bnd (e_up σ 9 3 a1) fun σ2 =>
    some σ2
  else
    e_bnd (e_up σ 9 4 a1) fun σ1 =>
    some σ1
def fX0_takeHammer_16 (σ : eSt) : Option (eSt) :=
  e_bnd (e_up σ 9 4 10) fun σ1 =>
  some σ1
def fX0_takeHammer (σ : eSt) (a1 : Int32) : Option (eSt) :=
  if (σ 9 3) = a1 then
    e_bnd (e_up σ 9 3 (σ 9 4)) fun σ1 =>
    fX0_takeHammer_16 σ1
  else
    fX0_takeHammer_16 σ
def fX0_packed (σ : eSt) : Option (Int32) :=
  some (((((((σ 9 0) ||| (e_shl (σ 9 1) 4)) ||| (e_shl (σ 9 2) 8)) ||| (e_shl (σ 9 3) 14)) ||| (e_shl (σ 9 4) 18)) ||| (e_shl (σ 9 5) 22)) ||| (e_shl (σ 9 6) 25))
def fX0_unpack (σ : eSt) (a1 : Int32) : Option (eSt) :=
  e_bnd (e_up σ 9 0 (a1 &&& 15)) fun σ1 =>
  e_bnd (e_up σ1 9 1 ((e_shr a1 4) &&& 15)) fun σ2 =>
  e_bnd (e_up σ2 9 2 ((e_shr a1 8) &&& 63)) fun σ3 =>
  e_bnd (e_up σ3 9 3 ((e_shr a1 14) &&& 15)) fun σ4 =>
  e_bnd (e_up σ4 9 4 ((e_shr a1 18) &&& 15)) fun σ5 =>
  e_bnd (e_up σ5 9 5 ((e_shr a1 22) &&& 7)) fun σ6 =>
  e_bnd (e_up σ6 9 6 ((e_shr a1 25) &&& 3)) fun σ7 =>
  some σ7
def fX1_add (σ : eSt) (a1 : Int32) (a2 : Int32) (a3 : Int32) (a4 : Int32) : Option (eSt) :=
  if 6 ≤ (σ 10 4) then
    some σ
  else
    if e_in (σ 10 4) 6 then e_bnd (e_up σ 11 (σ 10 4).toNatClampNeg a1) fun σ1 =>
    if e_in (σ1 10 4) 6 then e_bnd (e_up σ1 12 (σ1 10 4).toNatClampNeg a2) fun σ2 =>
    if e_in (σ2 10 4) 6 then e_bnd (e_up σ2 13 (σ2 10 4).toNatClampNeg a3) fun σ3 =>
    if e_in (σ3 10 4) 6 then e_bnd (e_up σ3 14 (σ3 10 4).toNatClampNeg (vp_nar .boolean a4)) fun σ4 =>
    e_bnd (e_up σ4 10 4 ((σ4 10 4) + 1)) fun σ5 =>
    some σ5
    else none
    else none
    else none
    else none
def fX2_has (σ : eSt) (a1 : Int32) : Option (Int32) :=
  if a1 < 0 then
    if e_isb 0 then some 0 else none
  else
    if (σ 3 5) ≤ a1 then
      if e_isb 0 then some 0 else none
    else
      if e_isb 1 then some 1 else none
def fX3_digit (σ : eSt) (a1 : Int32) : Option (Int32) :=
  if a1 < 0 then
    some 0
  else
    if (σ 1 1) ≤ a1 then
      some 0
    else
      if e_in a1 40 then
      some ((σ 2 a1.toNatClampNeg) - 48)
      else none
def bX2_take_24 (k24 : Int32 → eSt → Option (eSt)) (a2 : Int32) (σ : eSt) : Option (eSt) :=
  if (σ 3 5) ≤ a2 then
    some σ
  else
    e_bnd (4 + (6 * a2)) fun v1 =>
    (fX3_digit σ (v1 + 1)).bind fun v2 =>
    if e_in a2 6 then e_bnd (e_up σ 4 a2.toNatClampNeg v2) fun σ3 =>
    (fX3_digit σ3 (v1 + 2)).bind fun v4 =>
    if e_in a2 6 then e_bnd (e_up σ3 5 a2.toNatClampNeg v4) fun σ5 =>
    (fX3_digit σ5 (v1 + 3)).bind fun v6 =>
    if e_in a2 6 then e_bnd (e_up σ5 6 a2.toNatClampNeg v6) fun σ7 =>
    (fX3_digit σ7 (v1 + 4)).bind fun v8 =>
    if e_in a2 6 then e_bnd (e_up σ7 7 a2.toNatClampNeg v8) fun σ9 =>
    (fX3_digit σ9 (v1 + 5)).bind fun v10 =>
    if e_in a2 6 then e_bnd (e_up σ9 8 a2.toNatClampNeg v10) fun σ11 =>
    e_bnd (a2 + 1) fun v12 =>
    k24 v12 σ11
    else none
    else none
    else none
    else none
    else none
def fX2_take (σ : eSt) : Option (eSt) :=
  e_bnd (e_up σ 3 5 (e_min 6 (e_max 0 (((σ 1 1) - 4) / 6)))) fun σ1 =>
  lo_2 (bX2_take_24) 1000 0 σ1
def fX4_reaches_43 (a1 : Int32) (a3 : Int32) (a6 : Int32) (a7 : Int32) : Option (Int32) :=
  if a1 ≤ (a7 + (e_abs (a3 - a6))) then
    if e_isb 0 then some 0 else none
  else
    if e_isb 1 then some 1 else none
def fX4_reaches_15 (a0 : Int32) (a1 : Int32) (a3 : Int32) (a4 : Int32) (s0 : Int32) : Option (Int32) :=
  if a0 = 1 then
    fX4_reaches_43 a1 a3 s0 0
  else
    if a0 = 2 then
      e_bnd (2 * a4) fun v1 =>
      fX4_reaches_43 a1 a3 s0 v1
    else
      fX4_reaches_43 a1 a3 s0 a4
def fX4_reaches (a0 : Int32) (a1 : Int32) (a2 : Int32) (a3 : Int32) (a4 : Int32) (a5 : Int32) : Option (Int32) :=
  if a0 = 3 then
    fX4_reaches_15 a0 a1 a3 a4 a2
  else
    fX4_reaches_15 a0 a1 a3 a4 ((a2 + a5) - 1)
def fX2_carries (σ : eSt) (a1 : Int32) (a2 : Int32) (a3 : Int32) (a4 : Int32) (a5 : Int32) : Option (Int32) :=
  (fX2_has σ a1).bind fun v1 =>
  if v1 = 0 then
    if e_isb 0 then some 0 else none
  else
    if e_in a1 6 then
    if a3 < (σ 6 a1.toNatClampNeg) then
      if e_isb 0 then some 0 else none
    else
      if e_in a1 6 then
      if (σ 7 a1.toNatClampNeg) < a3 then
        if e_isb 0 then some 0 else none
      else
        if e_in a1 6 then
        if e_in a1 6 then
        if e_in a1 6 then
        (fX4_reaches (σ 8 a1.toNatClampNeg) (σ 5 a1.toNatClampNeg) (σ 4 a1.toNatClampNeg) a2 a4 a5).bind fun v2 =>
        if v2 = 0 then
          if e_isb 0 then some 0 else none
        else
          if e_isb 1 then some 1 else none
        else none
        else none
        else none
      else none
    else none
def fX3_add (σ : eSt) (a1 : Int32) : Option (eSt) :=
  if 40 ≤ (σ 1 1) then
    some σ
  else
    if e_in (σ 1 1) 40 then e_bnd (e_up σ 2 (σ 1 1).toNatClampNeg a1) fun σ1 =>
    e_bnd (e_up σ1 1 1 ((σ1 1 1) + 1)) fun σ2 =>
    some σ2
    else none
def fX3_isDigit (σ : eSt) (a1 : Int32) (a2 : Int32) (a3 : Int32) : Option (Int32) :=
  (fX3_digit σ a1).bind fun v1 =>
  if v1 < a2 then
    if e_isb 0 then some 0 else none
  else
    if a3 < v1 then
      if e_isb 0 then some 0 else none
    else
      if e_isb 1 then some 1 else none
def fX3_fitsHead (σ : eSt) (a1 : Int32) : Option (Int32) :=
  if a1 = 0 then
      if (σ 2 0) = 82 then
        if e_isb 1 then some 1 else none
      else
        if e_isb 0 then some 0 else none
  else
  if a1 = 1 then
      (fX3_isDigit σ a1 0 9).bind fun v1 =>
      if e_isb v1 then some v1 else none
  else
  if a1 = 2 then
      (fX3_isDigit σ a1 0 4).bind fun v2 =>
      if e_isb v2 then some v2 else none
  else
    (fX3_isDigit σ a1 0 2).bind fun v3 =>
    if e_isb v3 then some v3 else none
def fX3_fitsPart (σ : eSt) (a1 : Int32) : Option (Int32) :=
  if (e_rem (a1 - 4) 6) = 0 then
      if e_in a1 40 then
      if (σ 2 a1.toNatClampNeg) = 83 then
        if e_isb 1 then some 1 else none
      else
        if e_isb 0 then some 0 else none
      else none
  else
  if (e_rem (a1 - 4) 6) = 1 then
      (fX3_isDigit σ a1 0 9).bind fun v1 =>
      if e_isb v1 then some v1 else none
  else
  if (e_rem (a1 - 4) 6) = 2 then
      (fX3_isDigit σ a1 1 9).bind fun v2 =>
      if e_isb v2 then some v2 else none
  else
  if (e_rem (a1 - 4) 6) = 3 then
      (fX3_isDigit σ a1 0 9).bind fun v3 =>
      if e_isb v3 then some v3 else none
  else
  if (e_rem (a1 - 4) 6) = 4 then
      (fX3_digit σ (a1 - 1)).bind fun v4 =>
      (fX3_isDigit σ a1 v4 9).bind fun v5 =>
      if e_isb v5 then some v5 else none
  else
    (fX3_isDigit σ a1 0 3).bind fun v6 =>
    if e_isb v6 then some v6 else none
def fX3_fits (σ : eSt) (a1 : Int32) : Option (Int32) :=
  if 4 ≤ a1 then
    (fX3_fitsPart σ a1).bind fun v1 =>
    if e_isb v1 then some v1 else none
  else
    (fX3_fitsHead σ a1).bind fun v2 =>
    if e_isb v2 then some v2 else none
def fX3_firstFault_51 (σ : eSt) (s0 : Int32) : Option (Int32) :=
  if s0 = 0 then
    some (σ 1 1)
  else
    some (-9)
def fX3_firstFault_50 (σ : eSt) : Option (Int32) :=
  fX3_firstFault_51 σ 0
def bX3_firstFault_2 (σ : eSt) (k2 : Int32 → Option (Int32)) (a1 : Int32) : Option (Int32) :=
  if (σ 1 1) ≤ a1 then
    if (σ 1 1) < 4 then
      fX3_firstFault_50 σ
    else
      if (e_rem ((σ 1 1) - 4) 6) = 0 then
        fX3_firstFault_51 σ 1
      else
        fX3_firstFault_50 σ
  else
    (fX3_fits σ a1).bind fun v1 =>
    if v1 = 0 then
      some a1
    else
      e_bnd (a1 + 1) fun v2 =>
      k2 v2
def fX3_firstFault (σ : eSt) : Option (Int32) :=
  lo_1 (bX3_firstFault_2 σ) 1000 0
def fX4_write (σ : eSt) (a1 : Int32) : Option (Int32 × eSt) :=
  if a1 < 0 then
    some ((-2), σ)
  else
    if a1 ≤ 255 then
      if (σ 1 1) < 40 then
        (fX3_add σ a1).bind fun σ1 =>
        some (σ1 1 1, σ1)
      else
        some ((-4), σ)
    else
      some ((-2), σ)
def fX4_wipe (σ : eSt) : Option (Int32 × eSt) :=
  e_bnd (σ 1 1) fun v1 =>
  e_bnd (e_up σ 1 1 0) fun σ2 =>
  some (v1, σ2)
def fX4_fault (σ : eSt) : Option (Int32) :=
  (fX3_firstFault σ).bind fun v1 =>
  some v1
def fX4_river (σ : eSt) : Option (Int32 × eSt) :=
  (fX3_firstFault σ).bind fun v1 =>
  if v1 = (-9) then
    (fX2_take σ).bind fun σ2 =>
    (fX3_digit σ2 1).bind fun v3 =>
    (fX3_digit σ2 2).bind fun v4 =>
    (fX3_digit σ2 3).bind fun v5 =>
    (fX0_begin σ2 v3 v4 v5).bind fun σ6 =>
    e_bnd (e_up σ6 0 5 0) fun σ7 =>
    e_bnd (e_up σ7 16 0 (-1)) fun σ8 =>
    e_bnd (e_up σ8 16 1 (-1)) fun σ9 =>
    some (σ9 3 5, σ9)
  else
    some ((-3), σ)
def fX4_toldCell (a0 : Int32) : Option (Int32) :=
  if a0 = 10 then
    some (-9)
  else
    some a0
def fX4_about (σ : eSt) (a1 : Int32) : Option (Int32) :=
  if a1 = 0 then
      some (σ 3 5)
  else
  if a1 = 1 then
      some (σ 9 0)
  else
  if a1 = 2 then
      some (σ 9 1)
  else
  if a1 = 3 then
      some (σ 9 5)
  else
  if a1 = 4 then
      some (σ 9 6)
  else
  if a1 = 5 then
      some (σ 9 2)
  else
  if a1 = 6 then
      (fX0_hammerCount σ).bind fun v1 =>
      some v1
  else
  if a1 = 7 then
      (fX4_toldCell (σ 9 3)).bind fun v2 =>
      some v2
  else
  if a1 = 8 then
      (fX4_toldCell (σ 9 4)).bind fun v3 =>
      some v3
  else
  if a1 = 9 then
      some (σ 0 5)
  else
  if a1 = 10 then
      some (σ 10 4)
  else
  if a1 = 11 then
      some (σ 1 1)
  else
    some (-2)
def fX4_isHeard (σ : eSt) (a1 : Int32) (a2 : Int32) (a3 : Int32) (a4 : Int32) (a5 : Int32) : Option (Int32) :=
  if ((σ 9 2) &&& (e_shl 1 a1)) = 0 then
    (fX2_carries σ a1 a2 a3 a4 a5).bind fun v1 =>
    if v1 = 0 then
      if e_isb 0 then some 0 else none
    else
      if e_isb 1 then some 1 else none
  else
    if e_isb 0 then some 0 else none
def fX4_cellsThatHear_46 (k4 : Int32 → Int32 → Option (Int32)) (σ : eSt) (a1 : Int32) (a2 : Int32) (a3 : Int32) : Option (Int32) :=
  e_bnd (a3 + 1) fun v1 =>
  k4 a2 v1
def bX4_cellsThatHear_4 (σ : eSt) (a1 : Int32) (k4 : Int32 → Int32 → Option (Int32)) (a2 : Int32) (a3 : Int32) : Option (Int32) :=
  if 10 ≤ a3 then
    some a2
  else
    (fX4_isHeard σ a1 a3 (σ 9 1) (σ 9 5) (σ 9 6)).bind fun v1 =>
    if v1 = 0 then
      fX4_cellsThatHear_46 k4 σ a1 a2 a3
    else
      e_bnd (a2 ||| (e_shl 1 a3)) fun v2 =>
      fX4_cellsThatHear_46 k4 σ a1 v2 a3
def fX4_cellsThatHear (σ : eSt) (a1 : Int32) : Option (Int32) :=
  lo_2 (bX4_cellsThatHear_4 σ a1) 1000 0 0
def fX4_sound (σ : eSt) (a1 : Int32) (a2 : Int32) : Option (Int32) :=
  (fX2_has σ a1).bind fun v1 =>
  if v1 = 0 then
    some (-1)
  else
    if a2 = 0 then
        if e_in a1 6 then
        some (σ 4 a1.toNatClampNeg)
        else none
    else
    if a2 = 1 then
        if e_in a1 6 then
        some (σ 5 a1.toNatClampNeg)
        else none
    else
    if a2 = 2 then
        if e_in a1 6 then
        some (σ 6 a1.toNatClampNeg)
        else none
    else
    if a2 = 3 then
        if e_in a1 6 then
        some (σ 7 a1.toNatClampNeg)
        else none
    else
    if a2 = 4 then
        if e_in a1 6 then
        some (σ 8 a1.toNatClampNeg)
        else none
    else
    if a2 = 5 then
        (fX4_cellsThatHear σ a1).bind fun v2 =>
        some v2
    else
      some (-2)
def fX4_isCell (a0 : Int32) : Option (Int32) :=
  if a0 < 0 then
    if e_isb 0 then some 0 else none
  else
    if 10 ≤ a0 then
      if e_isb 0 then some 0 else none
    else
      if e_isb 1 then some 1 else none
def fX4_rememberAct_43 (σ : eSt) : Option (eSt) :=
  (fX0_packed σ).bind fun v1 =>
  if e_in (σ 0 5) 14 then e_bnd (e_up σ 15 (σ 0 5).toNatClampNeg v1) fun σ2 =>
  e_bnd (e_up σ2 0 5 ((σ2 0 5) + 1)) fun σ3 =>
  some σ3
  else none
def bX4_rememberAct_11 (k11 : Int32 → eSt → Option (eSt)) (a1 : Int32) (σ : eSt) : Option (eSt) :=
  if 14 ≤ a1 then
    e_bnd (e_up σ 0 5 13) fun σ1 =>
    fX4_rememberAct_43 σ1
  else
    if e_in a1 14 then
    if e_in (a1 - 1) 14 then e_bnd (e_up σ 15 (a1 - 1).toNatClampNeg (σ 15 a1.toNatClampNeg)) fun σ2 =>
    e_bnd (a1 + 1) fun v3 =>
    k11 v3 σ2
    else none
    else none
def fX4_rememberAct (σ : eSt) : Option (eSt) :=
  if (σ 0 5) < 14 then
    fX4_rememberAct_43 σ
  else
    lo_2 (bX4_rememberAct_11) 1000 1 σ
def fX4_liveSounds (σ : eSt) : Option (Int32) :=
  some (((e_shl 1 (σ 3 5)) - 1) &&& ((σ 9 2) ^^^ (-1)))
def fX4_soundSet_71 (k11 : Int32 → Int32 → Option (Int32)) (σ : eSt) (a1 : Int32) (a2 : Int32) (a3 : Int32) (a4 : Int32) (a5 : Int32) : Option (Int32) :=
  e_bnd (a5 + 1) fun v1 =>
  k11 a4 v1
def bX4_soundSet_11 (σ : eSt) (a1 : Int32) (a2 : Int32) (a3 : Int32) (k11 : Int32 → Int32 → Option (Int32)) (a4 : Int32) (a5 : Int32) : Option (Int32) :=
  if (σ 3 5) ≤ a5 then
    some a4
  else
    e_bnd (e_shl 1 a5) fun v1 =>
    if (a3 &&& v1) = 0 then
      fX4_soundSet_71 k11 σ a1 a2 a3 a4 a5
    else
      (fX2_carries σ a5 a1 a2 (σ 9 5) (σ 9 6)).bind fun v2 =>
      if v2 = 0 then
        fX4_soundSet_71 k11 σ a1 a2 a3 a4 a5
      else
        e_bnd (a4 ||| v1) fun v3 =>
        fX4_soundSet_71 k11 σ a1 a2 a3 v3 a5
def fX4_soundSet (σ : eSt) (a1 : Int32) (a2 : Int32) : Option (Int32) :=
  (fX4_liveSounds σ).bind fun v1 =>
  lo_2 (bX4_soundSet_11 σ a1 a2 v1) 1000 0 0
def fX4_hammerSet_40 (σ : eSt) (a1 : Int32) (a3 : Int32) (a4 : Int32) : Option (Int32) :=
  if a3 = 10 then
    some a4
  else
    (fX4_reaches 0 3 a3 a1 (σ 9 5) (σ 9 6)).bind fun v1 =>
    if v1 = 0 then
      some a4
    else
      e_bnd (a4 ||| 128) fun v2 =>
      some v2
def fX4_hammerSet (σ : eSt) (a1 : Int32) (a2 : Int32) (a3 : Int32) : Option (Int32) :=
  if a2 = 10 then
    fX4_hammerSet_40 σ a1 a3 0
  else
    (fX4_reaches 0 3 a2 a1 (σ 9 5) (σ 9 6)).bind fun v1 =>
    if v1 = 0 then
      fX4_hammerSet_40 σ a1 a3 0
    else
      e_bnd (0 ||| 64) fun v2 =>
      fX4_hammerSet_40 σ a1 a3 v2
def fX4_setNow (σ : eSt) (a1 : Int32) (a2 : Int32) : Option (Int32) :=
  (fX4_soundSet σ a1 a2).bind fun v1 =>
  (fX4_hammerSet σ a1 (σ 9 3) (σ 9 4)).bind fun v2 =>
  some (v1 ||| v2)
def fX4_row_39 (σ : eSt) (s0 : Int32) : Option (Int32 × eSt) :=
  (fX4_isCell s0).bind fun v1 =>
  if v1 = 0 then
    some ((-3), σ)
  else
    (fX4_rememberAct σ).bind fun σ2 =>
    e_bnd (e_up σ2 9 0 s0) fun σ3 =>
    (fX4_setNow σ3 s0 (σ3 9 1)).bind fun v4 =>
    some (v4, σ3)
def fX4_row_13 (σ : eSt) (a1 : Int32) : Option (Int32 × eSt) :=
  if a1 = 1 then
    fX4_row_39 σ ((σ 9 0) + 1)
  else
    fX4_row_39 σ ((σ 9 0) - 1)
def fX4_row (σ : eSt) (a1 : Int32) : Option (Int32 × eSt) :=
  if a1 = 1 then
    fX4_row_13 σ a1
  else
    if a1 = 2 then
      fX4_row_13 σ a1
    else
      some ((-2), σ)
def fX4_hush (σ : eSt) (a1 : Int32) : Option (Int32 × eSt) :=
  (fX2_has σ a1).bind fun v1 =>
  if v1 = 0 then
    some ((-1), σ)
  else
    (fX4_rememberAct σ).bind fun σ2 =>
    e_bnd (e_up σ2 9 2 ((σ2 9 2) ^^^ (e_shl 1 a1))) fun σ3 =>
    some ((e_shr (σ3 9 2) a1) &&& 1, σ3)
def fX4_hammer_83 (σ : eSt) : Option (Int32 × eSt) :=
  (fX0_hammerCount σ).bind fun v1 =>
  some (v1, σ)
def fX4_hammer_56 (σ : eSt) (a1 : Int32) (a2 : Int32) : Option (Int32 × eSt) :=
  (fX4_rememberAct σ).bind fun σ1 =>
  if a2 = 0 then
    (fX0_putHammer σ1 a1).bind fun σ2 =>
    fX4_hammer_83 σ2
  else
    (fX0_takeHammer σ1 a1).bind fun σ3 =>
    fX4_hammer_83 σ3
def fX4_hammer_37 (σ : eSt) (a1 : Int32) (s0 : Int32) : Option (Int32 × eSt) :=
  if s0 = 0 then
    (fX0_hammerCount σ).bind fun v1 =>
    if v1 = 2 then
      some ((-4), σ)
    else
      fX4_hammer_56 σ a1 s0
  else
    fX4_hammer_56 σ a1 s0
def fX4_hammer_32 (σ : eSt) (a1 : Int32) : Option (Int32 × eSt) :=
  fX4_hammer_37 σ a1 1
def fX4_hammer (σ : eSt) (a1 : Int32) : Option (Int32 × eSt) :=
  (fX4_isCell a1).bind fun v1 =>
  if v1 = 0 then
    some ((-2), σ)
  else
    if (σ 9 3) = a1 then
      fX4_hammer_32 σ a1
    else
      if (σ 9 4) = a1 then
        fX4_hammer_32 σ a1
      else
        fX4_hammer_37 σ a1 0
def fX4_change_46 (σ : eSt) (a1 : Int32) (a2 : Int32) : Option (Int32 × eSt) :=
  (fX4_rememberAct σ).bind fun σ1 =>
  e_bnd ((10 * (σ1 9 5)) + (σ1 9 6)) fun v2 =>
  e_bnd (e_up σ1 9 5 a1) fun σ3 =>
  e_bnd (e_up σ3 9 6 a2) fun σ4 =>
  some (v2, σ4)
def fX4_change (σ : eSt) (a1 : Int32) (a2 : Int32) : Option (Int32 × eSt) :=
  if a1 < 0 then
    some ((-2), σ)
  else
    if 4 < a1 then
      some ((-2), σ)
    else
      if a2 < 0 then
        some ((-2), σ)
      else
        if a2 ≤ 2 then
          if a1 = (σ 9 5) then
            if a2 = (σ 9 6) then
              some ((-3), σ)
            else
              fX4_change_46 σ a1 a2
          else
            fX4_change_46 σ a1 a2
        else
          some ((-2), σ)
def fX4_hourBehind (a0 : Int32) : Option (Int32) :=
  some (e_rem (a0 + 1) 10)
def fX4_hour (σ : eSt) : Option (Int32 × eSt) :=
  (fX4_rememberAct σ).bind fun σ1 =>
  (fX4_hourBehind (σ1 9 1)).bind fun v2 =>
  e_bnd (e_up σ1 9 1 v2) fun σ3 =>
  some (σ3 9 1, σ3)
def fX4_undo (σ : eSt) : Option (Int32 × eSt) :=
  if 1 ≤ (σ 0 5) then
    e_bnd (e_up σ 0 5 ((σ 0 5) - 1)) fun σ1 =>
    if e_in (σ1 0 5) 14 then
    (fX0_unpack σ1 (σ1 15 (σ1 0 5).toNatClampNeg)).bind fun σ2 =>
    some (σ2 0 5, σ2)
    else none
  else
    some ((-3), σ)
def fX4_isHour (a0 : Int32) : Option (Int32) :=
  if a0 < 0 then
    if e_isb 0 then some 0 else none
  else
    if 10 ≤ a0 then
      if e_isb 0 then some 0 else none
    else
      if e_isb 1 then some 1 else none
def fX4_heard (σ : eSt) (a1 : Int32) (a2 : Int32) : Option (Int32) :=
  (fX4_isCell a1).bind fun v1 =>
  if v1 = 0 then
    some (-2)
  else
    (fX4_isHour a2).bind fun v2 =>
    if v2 = 0 then
      some (-2)
    else
      (fX4_setNow σ a1 a2).bind fun v3 =>
      some v3
def bX4_fillSoundSets_2 (a1 : Int32) (k2 : Int32 → eSt → Option (eSt)) (a2 : Int32) (σ : eSt) : Option (eSt) :=
  if 10 ≤ a2 then
    some σ
  else
    (fX4_soundSet σ a2 a1).bind fun v1 =>
    if e_in a2 10 then e_bnd (e_up σ 17 a2.toNatClampNeg v1) fun σ2 =>
    e_bnd (a2 + 1) fun v3 =>
    k2 v3 σ2
    else none
def fX4_fillSoundSets (σ : eSt) (a1 : Int32) : Option (eSt) :=
  lo_2 (bX4_fillSoundSets_2 a1) 1000 0 σ
def bX4_fillSets_2 (a1 : Int32) (a2 : Int32) (k2 : Int32 → eSt → Option (eSt)) (a3 : Int32) (σ : eSt) : Option (eSt) :=
  if 10 ≤ a3 then
    some σ
  else
    if e_in a3 10 then
    (fX4_hammerSet σ a3 a1 a2).bind fun v1 =>
    if e_in a3 10 then e_bnd (e_up σ 18 a3.toNatClampNeg ((σ 17 a3.toNatClampNeg) ||| v1)) fun σ2 =>
    e_bnd (a3 + 1) fun v3 =>
    k2 v3 σ2
    else none
    else none
def fX4_fillSets (σ : eSt) (a1 : Int32) (a2 : Int32) : Option (eSt) :=
  lo_2 (bX4_fillSets_2 a1 a2) 1000 0 σ
def fX4_fillSetsNow (σ : eSt) (a1 : Int32) : Option (eSt) :=
  (fX4_fillSoundSets σ a1).bind fun σ1 =>
  (fX4_fillSets σ1 (σ1 9 3) (σ1 9 4)).bind fun σ2 =>
  some σ2
def fX4_sureCells_52 (k4 : Int32 → Int32 → Option (Int32)) (k15 : Int32 → Int32 → Option (Int32)) (σ : eSt) (a1 : Int32) (a2 : Int32) (a3 : Int32) (a4 : Int32) : Option (Int32) :=
  e_bnd (a4 + 1) fun v1 =>
  k15 a2 v1
def bX4_sureCells_15 (k4 : Int32 → Int32 → Option (Int32)) (σ : eSt) (a1 : Int32) (a3 : Int32) (k15 : Int32 → Int32 → Option (Int32)) (a2 : Int32) (a4 : Int32) : Option (Int32) :=
  if 10 ≤ a4 then
    e_bnd (a3 + 1) fun v1 =>
    k4 a2 v1
  else
    if e_in a3 10 then
    if e_in a4 10 then
    if (((σ 18 a3.toNatClampNeg) ^^^ (σ 18 a4.toNatClampNeg)) &&& a1) = 0 then
      e_bnd (a2 ||| ((e_shl 1 a3) ||| (e_shl 1 a4))) fun v2 =>
      fX4_sureCells_52 k4 k15 σ a1 v2 a3 a4
    else
      fX4_sureCells_52 k4 k15 σ a1 a2 a3 a4
    else none
    else none
def bX4_sureCells_4 (σ : eSt) (a1 : Int32) (k4 : Int32 → Int32 → Option (Int32)) (a2 : Int32) (a3 : Int32) : Option (Int32) :=
  if 10 ≤ a3 then
    some (1023 &&& (a2 ^^^ (-1)))
  else
    e_bnd (a3 + 1) fun v1 =>
    lo_2 (bX4_sureCells_15 k4 σ a1 a3) 1000 a2 v1
def fX4_sureCells (σ : eSt) (a1 : Int32) : Option (Int32) :=
  lo_2 (bX4_sureCells_4 σ a1) 1000 0 0
def fX4_sure (σ : eSt) (a1 : Int32) : Option (Int32 × eSt) :=
  (fX4_isHour a1).bind fun v1 =>
  if v1 = 0 then
    some ((-2), σ)
  else
    (fX4_fillSetsNow σ a1).bind fun σ2 =>
    (fX4_sureCells σ2 255).bind fun v3 =>
    some (v3, σ2)
def fX4_isSet (a0 : Int32) : Option (Int32) :=
  if a0 < 0 then
    if e_isb 0 then some 0 else none
  else
    if 255 < a0 then
      if e_isb 0 then some 0 else none
    else
      if e_isb 1 then some 1 else none
def fX4_where_47 (k22 : Int32 → Int32 → Option (Int32)) (σ : eSt) (a1 : Int32) (a2 : Int32) (a3 : Int32) (a4 : Int32) : Option (Int32) :=
  e_bnd (a4 + 1) fun v1 =>
  k22 a3 v1
def bX4_where_22 (σ : eSt) (a1 : Int32) (a2 : Int32) (k22 : Int32 → Int32 → Option (Int32)) (a3 : Int32) (a4 : Int32) : Option (Int32) :=
  if 10 ≤ a4 then
    some a3
  else
    (fX4_setNow σ a4 a2).bind fun v1 =>
    if v1 = a1 then
      e_bnd (a3 ||| (e_shl 1 a4)) fun v2 =>
      fX4_where_47 k22 σ a1 a2 v2 a4
    else
      fX4_where_47 k22 σ a1 a2 a3 a4
def fX4_where (σ : eSt) (a1 : Int32) (a2 : Int32) : Option (Int32) :=
  (fX4_isSet a1).bind fun v1 =>
  if v1 = 0 then
    some (-2)
  else
    (fX4_isHour a2).bind fun v2 =>
    if v2 = 0 then
      some (-2)
    else
      lo_2 (bX4_where_22 σ a1 a2) 1000 0 0
def fX4_when_47 (k22 : Int32 → Int32 → Option (Int32)) (σ : eSt) (a1 : Int32) (a2 : Int32) (a3 : Int32) (a4 : Int32) : Option (Int32) :=
  e_bnd (a4 + 1) fun v1 =>
  k22 a3 v1
def bX4_when_22 (σ : eSt) (a1 : Int32) (a2 : Int32) (k22 : Int32 → Int32 → Option (Int32)) (a3 : Int32) (a4 : Int32) : Option (Int32) :=
  if 10 ≤ a4 then
    some a3
  else
    (fX4_setNow σ a2 a4).bind fun v1 =>
    if v1 = a1 then
      e_bnd (a3 ||| (e_shl 1 a4)) fun v2 =>
      fX4_when_47 k22 σ a1 a2 v2 a4
    else
      fX4_when_47 k22 σ a1 a2 a3 a4
def fX4_when (σ : eSt) (a1 : Int32) (a2 : Int32) : Option (Int32) :=
  (fX4_isSet a1).bind fun v1 =>
  if v1 = 0 then
    some (-2)
  else
    (fX4_isCell a2).bind fun v2 =>
    if v2 = 0 then
      some (-2)
    else
      lo_2 (bX4_when_22 σ a1 a2) 1000 0 0
def fJ6_bitCount_0f7a4 (a0 : Int32) : Option (Int32) :=
  e_bnd (a0 - ((e_ushr a0 1) &&& 1431655765)) fun v1 =>
  e_bnd ((v1 &&& 858993459) + ((e_ushr v1 2) &&& 858993459)) fun v2 =>
  e_bnd ((v2 + (e_ushr v2 4)) &&& 252645135) fun v3 =>
  e_bnd (v3 + (e_ushr v3 8)) fun v4 =>
  e_bnd (v4 + (e_ushr v4 16)) fun v5 =>
  some (v5 &&& 63)
def fX4_sureCount (σ : eSt) (a1 : Int32) : Option (Int32) :=
  (fX4_sureCells σ (a1 ||| 192)).bind fun v1 =>
  (fJ6_bitCount_0f7a4 v1).bind fun v2 =>
  some v2
def fX4_spared_81 (k30 : Int32 → Int32 → Int32 → Option (Int32 × eSt)) (σ : eSt) (a2 : Int32) (a3 : Int32) (a4 : Int32) (a5 : Int32) : Option (Int32 × eSt) :=
  e_bnd (a5 + 1) fun v1 =>
  k30 a3 a4 v1
def bX4_spared_30 (σ : eSt) (a2 : Int32) (k30 : Int32 → Int32 → Int32 → Option (Int32 × eSt)) (a3 : Int32) (a4 : Int32) (a5 : Int32) : Option (Int32 × eSt) :=
  if (σ 3 5) ≤ a5 then
    some (a3, σ)
  else
    e_bnd (e_shl 1 a5) fun v1 =>
    if (a2 &&& v1) = 0 then
      fX4_spared_81 k30 σ a2 a3 a4 a5
    else
      (fX4_sureCount σ (a2 &&& (v1 ^^^ (-1)))).bind fun v2 =>
      if a4 ≤ v2 then
        fX4_spared_81 k30 σ a2 a3 a4 a5
      else
        fX4_spared_81 k30 σ a2 a5 v2 a5
def fX4_spared (σ : eSt) (a1 : Int32) : Option (Int32 × eSt) :=
  (fX4_isHour a1).bind fun v1 =>
  if v1 = 0 then
    some ((-2), σ)
  else
    (fX4_fillSetsNow σ a1).bind fun σ2 =>
    (fX4_liveSounds σ2).bind fun v3 =>
    lo_3 (bX4_spared_30 σ2 v3) 1000 (-9) 11 0
def bX4_greatestDivisor_7 (k7 : Int32 → Int32 → Int32 → Option (Int32)) (a2 : Int32) (a3 : Int32) (a4 : Int32) : Option (Int32) :=
  if 100 ≤ a4 then
    some a2
  else
    if a3 = 0 then
      some a2
    else
      if a3 = 0 then none else
      e_bnd (e_rem a2 a3) fun v1 =>
      e_bnd (a4 + 1) fun v2 =>
      k7 a3 v1 v2
def fX4_greatestDivisor (a0 : Int32) (a1 : Int32) : Option (Int32) :=
  lo_3 (bX4_greatestDivisor_7) 1000 a0 a1 0
def fX4_toldPart (a0 : Int32) (a1 : Int32) (a2 : Int32) : Option (Int32) :=
  (fX4_greatestDivisor (e_abs a0) a1).bind fun v1 =>
  e_bnd (e_max 1 v1) fun v2 =>
  if a2 = 0 then
    if v2 = 0 then none else
    some (a1 / v2)
  else
    if v2 = 0 then none else
    some (a0 / v2)
def bX4_factorial_4 (a0 : Int32) (k4 : Int32 → Int32 → Option (Int32)) (a1 : Int32) (a2 : Int32) : Option (Int32) :=
  if a0 < a2 then
    some a1
  else
    e_bnd (a1 * a2) fun v1 =>
    e_bnd (a2 + 1) fun v2 =>
    k4 v1 v2
def fX4_factorial (a0 : Int32) : Option (Int32) :=
  lo_2 (bX4_factorial_4 a0) 1000 1 2
def fX4_worth_141 (k77 : Int32 → Int32 → Option (Int32 × eSt)) (σ : eSt) (a3 : Int32) (a4 : Int32) (a5 : Int32) (a6 : Int32) (a7 : Int32) (a8 : Int32) : Option (Int32 × eSt) :=
  e_bnd (a8 + 1) fun v1 =>
  k77 a7 v1
def bX4_worth_77 (σ : eSt) (a3 : Int32) (a4 : Int32) (a5 : Int32) (a6 : Int32) (k77 : Int32 → Int32 → Option (Int32 × eSt)) (a7 : Int32) (a8 : Int32) : Option (Int32 × eSt) :=
  if 64 ≤ a8 then
    (fX4_factorial (a6 + 1)).bind fun v1 =>
    (fX4_toldPart a7 v1 a3).bind fun v2 =>
    some (v2, σ)
  else
    if (a8 &&& (a5 ^^^ (-1))) = 0 then
      (fJ6_bitCount_0f7a4 a8).bind fun v3 =>
      (fX4_factorial v3).bind fun v4 =>
      (fX4_factorial (a6 - v3)).bind fun v5 =>
      e_bnd (v4 * v5) fun v6 =>
      (fX4_sureCount σ (a8 ||| a4)).bind fun v7 =>
      (fX4_sureCount σ a8).bind fun v8 =>
      e_bnd (a7 + (v6 * (v7 - v8))) fun v9 =>
      fX4_worth_141 k77 σ a3 a4 a5 a6 v9 a8
    else
      fX4_worth_141 k77 σ a3 a4 a5 a6 a7 a8
def fX4_worth (σ : eSt) (a1 : Int32) (a2 : Int32) (a3 : Int32) : Option (Int32 × eSt) :=
  (fX2_has σ a1).bind fun v1 =>
  if v1 = 0 then
    some ((-1), σ)
  else
    (fX4_isHour a2).bind fun v2 =>
    if v2 = 0 then
      some ((-2), σ)
    else
      e_bnd (e_shl 1 a1) fun v3 =>
      if ((σ 9 2) &&& v3) = 0 then
        (fX4_fillSetsNow σ a2).bind fun σ4 =>
        (fX4_liveSounds σ4).bind fun v5 =>
        e_bnd (v5 &&& (v3 ^^^ (-1))) fun v6 =>
        (fJ6_bitCount_0f7a4 v6).bind fun v7 =>
        lo_2 (bX4_worth_77 σ4 a3 v3 v6 v7) 1000 0 0
      else
        (fX4_toldPart 0 1 a3).bind fun v8 =>
        some (v8, σ)
def fX4_isFirstOrSecond (a0 : Int32) : Option (Int32) :=
  if a0 = 0 then
    if e_isb 1 then some 1 else none
  else
    if a0 = 1 then
      if e_isb 1 then some 1 else none
    else
      if e_isb 0 then some 0 else none
def fX4_sureCountWith (σ : eSt) (a1 : Int32) (a2 : Int32) : Option (Int32 × eSt) :=
  (fX4_fillSets σ a1 a2).bind fun σ1 =>
  (fX4_sureCount σ1 255).bind fun v2 =>
  some (v2, σ1)
def bX4_fewestHammers_56 (k46 : Int32 → eSt → Option (Int32 × eSt)) (a1 : Int32) (a2 : Int32) (k56 : Int32 → eSt → Option (Int32 × eSt)) (a3 : Int32) (σ : eSt) : Option (Int32 × eSt) :=
  if 10 ≤ a3 then
    e_bnd (a2 + 1) fun v1 =>
    k46 v1 σ
  else
    (fX4_sureCountWith σ a2 a3).bind fun w2 =>
    if w2.1 < a1 then
      e_bnd (a3 + 1) fun v3 =>
      k56 v3 w2.2
    else
      some ((200 + (10 * a2)) + a3, w2.2)
def bX4_fewestHammers_46 (a1 : Int32) (k46 : Int32 → eSt → Option (Int32 × eSt)) (a2 : Int32) (σ : eSt) : Option (Int32 × eSt) :=
  if 10 ≤ a2 then
    some ((-9), σ)
  else
    e_bnd (a2 + 1) fun v1 =>
    lo_2 (bX4_fewestHammers_56 k46 a1 a2) 1000 v1 σ
def bX4_fewestHammers_16 (a1 : Int32) (k16 : Int32 → eSt → Option (Int32 × eSt)) (a2 : Int32) (σ : eSt) : Option (Int32 × eSt) :=
  if 10 ≤ a2 then
    lo_2 (bX4_fewestHammers_46 a1) 1000 0 σ
  else
    (fX4_sureCountWith σ a2 10).bind fun w1 =>
    if w1.1 < a1 then
      e_bnd (a2 + 1) fun v2 =>
      k16 v2 w1.2
    else
      some (100 + a2, w1.2)
def fX4_fewestHammers (σ : eSt) (a1 : Int32) : Option (Int32 × eSt) :=
  (fX4_sureCountWith σ 10 10).bind fun w1 =>
  if w1.1 < a1 then
    lo_2 (bX4_fewestHammers_16 a1) 1000 0 w1.2
  else
    some (0, w1.2)
def fX4_hammers (σ : eSt) (a1 : Int32) (a2 : Int32) (a3 : Int32) : Option (Int32 × eSt) :=
  (fX4_isHour a1).bind fun v1 =>
  if v1 = 0 then
    some ((-2), σ)
  else
    if a2 < 1 then
      some ((-2), σ)
    else
      if 10 < a2 then
        some ((-2), σ)
      else
        (fX4_isFirstOrSecond a3).bind fun v2 =>
        if v2 = 0 then
          some ((-2), σ)
        else
          (fX4_fillSoundSets σ a1).bind fun σ3 =>
          (fX4_fewestHammers σ3 a2).bind fun w4 =>
          if w4.1 = (-9) then
            some ((-9), w4.2)
          else
            if a3 = 0 then
              some (w4.1 / 100, w4.2)
            else
              some (e_rem w4.1 100, w4.2)
def fX4_bestHours_118 (k61 : Int32 → Int32 → Int32 → Option (Int32 × eSt)) (σ : eSt) (a1 : Int32) (a2 : Int32) (a3 : Int32) (a4 : Int32) (a5 : Int32) : Option (Int32 × eSt) :=
  e_bnd (a5 + 1) fun v1 =>
  k61 a3 a4 v1
def bX4_bestHours_74 (k61 : Int32 → Int32 → Int32 → Option (Int32 × eSt)) (σ : eSt) (a1 : Int32) (a2 : Int32) (a3 : Int32) (a4 : Int32) (a5 : Int32) (k74 : Int32 → Int32 → Option (Int32 × eSt)) (a6 : Int32) (a7 : Int32) : Option (Int32 × eSt) :=
  if a1 ≤ a7 then
    if a6 ≤ a4 then
      fX4_bestHours_118 k61 σ a1 a2 a3 a4 a5
    else
      fX4_bestHours_118 k61 σ a1 a2 a5 a6 a5
  else
    if e_in (e_rem (a5 + a7) 10) 10 then
    e_bnd (a6 + (σ 19 (e_rem (a5 + a7) 10).toNatClampNeg)) fun v1 =>
    e_bnd (a7 + 1) fun v2 =>
    k74 v1 v2
    else none
def bX4_bestHours_61 (σ : eSt) (a1 : Int32) (a2 : Int32) (k61 : Int32 → Int32 → Int32 → Option (Int32 × eSt)) (a3 : Int32) (a4 : Int32) (a5 : Int32) : Option (Int32 × eSt) :=
  if 10 ≤ a5 then
    if a2 = 0 then
      some (a3, σ)
    else
      some (a4, σ)
  else
    lo_2 (bX4_bestHours_74 k61 σ a1 a2 a3 a4 a5) 1000 0 0
def bX4_bestHours_23 (a1 : Int32) (a2 : Int32) (k23 : Int32 → eSt → Option (Int32 × eSt)) (a3 : Int32) (σ : eSt) : Option (Int32 × eSt) :=
  if 10 ≤ a3 then
    lo_3 (bX4_bestHours_61 σ a1 a2) 1000 0 (-1) 0
  else
    (fX4_fillSetsNow σ a3).bind fun σ1 =>
    (fX4_sureCount σ1 255).bind fun v2 =>
    if e_in a3 10 then e_bnd (e_up σ1 19 a3.toNatClampNeg v2) fun σ3 =>
    e_bnd (a3 + 1) fun v4 =>
    k23 v4 σ3
    else none
def fX4_bestHours (σ : eSt) (a1 : Int32) (a2 : Int32) : Option (Int32 × eSt) :=
  if a1 < 1 then
    some ((-2), σ)
  else
    if 10 < a1 then
      some ((-2), σ)
    else
      (fX4_isFirstOrSecond a2).bind fun v1 =>
      if v1 = 0 then
        some ((-2), σ)
      else
        lo_2 (bX4_bestHours_23 a1 a2) 1000 0 σ
def fX4_grounded_138 (k96 : Int32 → Int32 → Option (Int32)) (σ : eSt) (a2 : Int32) (a5 : Int32) (a8 : Int32) (a9 : Int32) : Option (Int32) :=
  e_bnd (a9 + 1) fun v1 =>
  k96 a8 v1
def bX4_grounded_96 (σ : eSt) (a2 : Int32) (a5 : Int32) (k96 : Int32 → Int32 → Option (Int32)) (a8 : Int32) (a9 : Int32) : Option (Int32) :=
  if 10 ≤ a9 then
    some a8
  else
    (fX4_reaches 0 a5 a9 a2 (σ 9 5) (σ 9 6)).bind fun v1 =>
    if v1 = 0 then
      fX4_grounded_138 k96 σ a2 a5 a8 a9
    else
      e_bnd (a8 ||| (e_shl 1 a9)) fun v2 =>
      fX4_grounded_138 k96 σ a2 a5 v2 a9
def fX4_grounded (σ : eSt) (a1 : Int32) (a2 : Int32) (a3 : Int32) (a4 : Int32) (a5 : Int32) : Option (Int32) :=
  (fX2_has σ a1).bind fun v1 =>
  if v1 = 0 then
    some (-1)
  else
    (fX4_isCell a2).bind fun v2 =>
    if v2 = 0 then
      some (-2)
    else
      (fX4_isCell a3).bind fun v3 =>
      if v3 = 0 then
        some (-2)
      else
        (fX4_isHour a4).bind fun v4 =>
        if v4 = 0 then
          some (-2)
        else
          if a5 < 1 then
            some (-2)
          else
            if a5 ≤ 9 then
              e_bnd (e_shl 1 a1) fun v5 =>
              (fX4_setNow σ a2 a4).bind fun v6 =>
              if (v6 &&& v5) = 0 then
                (fX4_setNow σ a3 a4).bind fun v7 =>
                if (v6 ||| v5) = v7 then
                  lo_2 (bX4_grounded_96 σ a2 a5) 1000 0 0
                else
                  some 0
              else
                some 0
            else
              some (-2)
def fX4_see (σ : eSt) (a1 : Int32) (a2 : Int32) (a3 : Int32) (a4 : Int32) : Option (Int32 × eSt) :=
  (fX2_has σ a1).bind fun v1 =>
  if v1 = 0 then
    some ((-1), σ)
  else
    (fX4_isCell a2).bind fun v2 =>
    if v2 = 0 then
      some ((-2), σ)
    else
      (fX4_isHour a3).bind fun v3 =>
      if v3 = 0 then
        some ((-2), σ)
      else
        if (σ 10 4) < 6 then
          (fX1_add σ a1 a2 a3 a4).bind fun σ4 =>
          some (σ4 10 4, σ4)
        else
          some ((-4), σ)
def fX4_unsee (σ : eSt) : Option (Int32 × eSt) :=
  e_bnd (σ 10 4) fun v1 =>
  e_bnd (e_up σ 10 4 0) fun σ2 =>
  some (v1, σ2)
def fX4_agreesWithSeen_79 (k2 : Int32 → Option (Int32)) (σ : eSt) (a1 : Int32) (a2 : Int32) (a3 : Int32) : Option (Int32) :=
  e_bnd (a3 + 1) fun v1 =>
  k2 v1
def bX4_agreesWithSeen_2 (σ : eSt) (a1 : Int32) (a2 : Int32) (k2 : Int32 → Option (Int32)) (a3 : Int32) : Option (Int32) :=
  if (σ 10 4) ≤ a3 then
    if e_isb 1 then some 1 else none
  else
    if e_in a3 6 then
    (fX2_has σ (σ 11 a3.toNatClampNeg)).bind fun v1 =>
    if v1 = 0 then
      fX4_agreesWithSeen_79 k2 σ a1 a2 a3
    else
      if e_in a3 6 then
      if e_in a3 6 then
      if e_in a3 6 then
      (fX4_isHeard σ (σ 11 a3.toNatClampNeg) (σ 12 a3.toNatClampNeg) (σ 13 a3.toNatClampNeg) a1 a2).bind fun v2 =>
      if e_in a3 6 then
      if v2 = (σ 14 a3.toNatClampNeg) then
        fX4_agreesWithSeen_79 k2 σ a1 a2 a3
      else
        if e_isb 0 then some 0 else none
      else none
      else none
      else none
      else none
    else none
def fX4_agreesWithSeen (σ : eSt) (a1 : Int32) (a2 : Int32) : Option (Int32) :=
  lo_1 (bX4_agreesWithSeen_2 σ a1 a2) 1000 0
def fX4_weather_64 (k18 : Int32 → Int32 → Int32 → Option (Int32)) (k27 : Int32 → Int32 → Int32 → Option (Int32)) (σ : eSt) (a1 : Int32) (a2 : Int32) (a3 : Int32) (a4 : Int32) (a5 : Int32) : Option (Int32) :=
  e_bnd (a5 + 1) fun v1 =>
  k27 a2 a3 v1
def fX4_weather_60 (k18 : Int32 → Int32 → Int32 → Option (Int32)) (k27 : Int32 → Int32 → Int32 → Option (Int32)) (σ : eSt) (a1 : Int32) (a2 : Int32) (a4 : Int32) (a5 : Int32) (s0 : Int32) : Option (Int32) :=
  e_bnd (a2 + 1) fun v1 =>
  fX4_weather_64 k18 k27 σ a1 v1 s0 a4 a5
def bX4_weather_27 (k18 : Int32 → Int32 → Int32 → Option (Int32)) (σ : eSt) (a1 : Int32) (a4 : Int32) (k27 : Int32 → Int32 → Int32 → Option (Int32)) (a2 : Int32) (a3 : Int32) (a5 : Int32) : Option (Int32) :=
  if 2 < a5 then
    e_bnd (a4 + 1) fun v1 =>
    k18 a2 a3 v1
  else
    (fX4_agreesWithSeen σ a4 a5).bind fun v2 =>
    if v2 = 0 then
      fX4_weather_64 k18 k27 σ a1 a2 a3 a4 a5
    else
      if a2 = 0 then
        fX4_weather_60 k18 k27 σ a1 a2 a4 a5 ((10 * a4) + a5)
      else
        fX4_weather_60 k18 k27 σ a1 a2 a4 a5 a3
def bX4_weather_18 (σ : eSt) (a1 : Int32) (k18 : Int32 → Int32 → Int32 → Option (Int32)) (a2 : Int32) (a3 : Int32) (a4 : Int32) : Option (Int32) :=
  if 4 < a4 then
    if a1 = 0 then
      some a2
    else
      some a3
  else
    lo_3 (bX4_weather_27 k18 σ a1 a4) 1000 a2 a3 0
def fX4_weather (σ : eSt) (a1 : Int32) : Option (Int32) :=
  (fX4_isFirstOrSecond a1).bind fun v1 =>
  if v1 = 0 then
    some (-2)
  else
    lo_3 (bX4_weather_18 σ a1) 1000 0 (-9) 0
def fX4_canBoth (a0 : Int32) (a1 : Int32) : Option (Int32) :=
  if a0 = a1 then
    if a0 = 10 then
      if e_isb 1 then some 1 else none
    else
      if e_isb 0 then some 0 else none
  else
    if e_isb 1 then some 1 else none
def fX4_fillSureByChoice_41 (k2 : Int32 → eSt → Option (eSt)) (k10 : Int32 → eSt → Option (eSt)) (σ : eSt) (a1 : Int32) (a2 : Int32) : Option (eSt) :=
  e_bnd (a2 + 1) fun v1 =>
  k10 v1 σ
def bX4_fillSureByChoice_10 (k2 : Int32 → eSt → Option (eSt)) (a1 : Int32) (k10 : Int32 → eSt → Option (eSt)) (a2 : Int32) (σ : eSt) : Option (eSt) :=
  if 11 ≤ a2 then
    e_bnd (a1 + 1) fun v1 =>
    k2 v1 σ
  else
    (fX4_canBoth a1 a2).bind fun v2 =>
    if v2 = 0 then
      fX4_fillSureByChoice_41 k2 k10 σ a1 a2
    else
      (fX4_sureCountWith σ a1 a2).bind fun w3 =>
      if e_in ((11 * a1) + a2) 121 then e_bnd (e_up w3.2 20 ((11 * a1) + a2).toNatClampNeg w3.1) fun σ4 =>
      fX4_fillSureByChoice_41 k2 k10 σ4 a1 a2
      else none
def bX4_fillSureByChoice_2 (k2 : Int32 → eSt → Option (eSt)) (a1 : Int32) (σ : eSt) : Option (eSt) :=
  if 11 ≤ a1 then
    some σ
  else
    lo_2 (bX4_fillSureByChoice_10 k2 a1) 1000 0 σ
def fX4_fillSureByChoice (σ : eSt) : Option (eSt) :=
  lo_2 (bX4_fillSureByChoice_2) 1000 0 σ
def fX4_isAtRest_86 (k25 : Int32 → Option (Int32)) (σ : eSt) (a1 : Int32) (a2 : Int32) (a3 : Int32) (a4 : Int32) : Option (Int32) :=
  e_bnd (a4 + 1) fun v1 =>
  k25 v1
def fX4_isAtRest_59 (k25 : Int32 → Option (Int32)) (σ : eSt) (a1 : Int32) (a2 : Int32) (a3 : Int32) (a4 : Int32) : Option (Int32) :=
  (fX4_canBoth a1 a4).bind fun v1 =>
  if v1 = 0 then
    fX4_isAtRest_86 k25 σ a1 a2 a3 a4
  else
    if e_in ((11 * a1) + a4) 121 then
    if a3 ≤ (σ 20 ((11 * a1) + a4).toNatClampNeg) then
      fX4_isAtRest_86 k25 σ a1 a2 a3 a4
    else
      if e_isb 0 then some 0 else none
    else none
def bX4_isAtRest_25 (σ : eSt) (a1 : Int32) (a2 : Int32) (a3 : Int32) (k25 : Int32 → Option (Int32)) (a4 : Int32) : Option (Int32) :=
  if 11 ≤ a4 then
    if e_isb 1 then some 1 else none
  else
    (fX4_canBoth a4 a2).bind fun v1 =>
    if v1 = 0 then
      fX4_isAtRest_59 k25 σ a1 a2 a3 a4
    else
      if e_in ((11 * a4) + a2) 121 then
      if (σ 20 ((11 * a4) + a2).toNatClampNeg) ≤ a3 then
        fX4_isAtRest_59 k25 σ a1 a2 a3 a4
      else
        if e_isb 0 then some 0 else none
      else none
def fX4_isAtRest (σ : eSt) (a1 : Int32) (a2 : Int32) : Option (Int32) :=
  (fX4_canBoth a1 a2).bind fun v1 =>
  if v1 = 0 then
    if e_isb 0 then some 0 else none
  else
    if e_in ((11 * a1) + a2) 121 then
    e_bnd (σ 20 ((11 * a1) + a2).toNatClampNeg) fun v2 =>
    lo_1 (bX4_isAtRest_25 σ a1 a2 v2) 1000 0
    else none
def fX4_rivals_85 (k35 : Int32 → Int32 → Int32 → Option (Int32 × eSt)) (k45 : Int32 → Int32 → Int32 → Option (Int32 × eSt)) (σ : eSt) (a2 : Int32) (a3 : Int32) (a4 : Int32) (a5 : Int32) (a6 : Int32) : Option (Int32 × eSt) :=
  e_bnd (a6 + 1) fun v1 =>
  k45 a3 a4 v1
def fX4_rivals_80 (k35 : Int32 → Int32 → Int32 → Option (Int32 × eSt)) (k45 : Int32 → Int32 → Int32 → Option (Int32 × eSt)) (σ : eSt) (a2 : Int32) (a3 : Int32) (a5 : Int32) (a6 : Int32) (s0 : Int32) : Option (Int32 × eSt) :=
  e_bnd (a3 + 1) fun v1 =>
  fX4_rivals_85 k35 k45 σ a2 v1 s0 a5 a6
def bX4_rivals_45 (k35 : Int32 → Int32 → Int32 → Option (Int32 × eSt)) (σ : eSt) (a2 : Int32) (a5 : Int32) (k45 : Int32 → Int32 → Int32 → Option (Int32 × eSt)) (a3 : Int32) (a4 : Int32) (a6 : Int32) : Option (Int32 × eSt) :=
  if 11 ≤ a6 then
    e_bnd (a5 + 1) fun v1 =>
    k35 a3 a4 v1
  else
    (fX4_isAtRest σ a5 a6).bind fun v2 =>
    if v2 = 0 then
      fX4_rivals_85 k35 k45 σ a2 a3 a4 a5 a6
    else
      if a3 = 0 then
        fX4_rivals_80 k35 k45 σ a2 a3 a5 a6 ((11 * a5) + a6)
      else
        fX4_rivals_80 k35 k45 σ a2 a3 a5 a6 a4
def bX4_rivals_35 (σ : eSt) (a2 : Int32) (k35 : Int32 → Int32 → Int32 → Option (Int32 × eSt)) (a3 : Int32) (a4 : Int32) (a5 : Int32) : Option (Int32 × eSt) :=
  if 11 ≤ a5 then
    if a2 = 0 then
      some (a3, σ)
    else
      some (a4, σ)
  else
    lo_3 (bX4_rivals_45 k35 σ a2 a5) 1000 a3 a4 0
def fX4_rivals (σ : eSt) (a1 : Int32) (a2 : Int32) : Option (Int32 × eSt) :=
  (fX4_isHour a1).bind fun v1 =>
  if v1 = 0 then
    some ((-2), σ)
  else
    (fX4_isFirstOrSecond a2).bind fun v2 =>
    if v2 = 0 then
      some ((-2), σ)
    else
      (fX4_fillSoundSets σ a1).bind fun σ3 =>
      (fX4_fillSureByChoice σ3).bind fun σ4 =>
      lo_3 (bX4_rivals_35 σ4 a2) 1000 0 (-9) 0
def fX4_isSure (σ : eSt) (a1 : Int32) (a2 : Int32) : Option (Int32) :=
  (fX4_sureCells σ (a2 ||| 192)).bind fun v1 =>
  if ((e_shr v1 a1) &&& 1) = 1 then
    if e_isb 1 then some 1 else none
  else
    if e_isb 0 then some 0 else none
def bX4_power_4 (a0 : Int32) (a1 : Int32) (k4 : Int32 → Int32 → Option (Int32)) (a2 : Int32) (a3 : Int32) : Option (Int32) :=
  if a1 ≤ a3 then
    some a2
  else
    e_bnd (a2 * a0) fun v1 =>
    e_bnd (a3 + 1) fun v2 =>
    k4 v1 v2
def fX4_power (a0 : Int32) (a1 : Int32) : Option (Int32) :=
  lo_2 (bX4_power_4 a0 a1) 1000 1 0
def fX4_chance_109 (k51 : Int32 → Int32 → Option (Int32 × eSt)) (σ : eSt) (a1 : Int32) (a3 : Int32) (a4 : Int32) (a5 : Int32) (a6 : Int32) (a7 : Int32) (a8 : Int32) : Option (Int32 × eSt) :=
  e_bnd (a8 + 1) fun v1 =>
  k51 a7 v1
def bX4_chance_51 (σ : eSt) (a1 : Int32) (a3 : Int32) (a4 : Int32) (a5 : Int32) (a6 : Int32) (k51 : Int32 → Int32 → Option (Int32 × eSt)) (a7 : Int32) (a8 : Int32) : Option (Int32 × eSt) :=
  if 64 ≤ a8 then
    (fX4_power 10 a6).bind fun v1 =>
    (fX4_toldPart a7 v1 a4).bind fun v2 =>
    some (v2, σ)
  else
    if (a8 &&& (a5 ^^^ (-1))) = 0 then
      (fX4_isSure σ a1 a8).bind fun v3 =>
      if v3 = 0 then
        fX4_chance_109 k51 σ a1 a3 a4 a5 a6 a7 a8
      else
        (fJ6_bitCount_0f7a4 a8).bind fun v4 =>
        (fX4_power (10 - a3) v4).bind fun v5 =>
        (fX4_power a3 (a6 - v4)).bind fun v6 =>
        e_bnd (a7 + (v5 * v6)) fun v7 =>
        fX4_chance_109 k51 σ a1 a3 a4 a5 a6 v7 a8
    else
      fX4_chance_109 k51 σ a1 a3 a4 a5 a6 a7 a8
def fX4_chance (σ : eSt) (a1 : Int32) (a2 : Int32) (a3 : Int32) (a4 : Int32) : Option (Int32 × eSt) :=
  (fX4_isCell a1).bind fun v1 =>
  if v1 = 0 then
    some ((-2), σ)
  else
    (fX4_isHour a2).bind fun v2 =>
    if v2 = 0 then
      some ((-2), σ)
    else
      if a3 < 0 then
        some ((-2), σ)
      else
        if a3 ≤ 10 then
          (fX4_fillSetsNow σ a2).bind fun σ3 =>
          (fX4_liveSounds σ3).bind fun v4 =>
          (fJ6_bitCount_0f7a4 v4).bind fun v5 =>
          lo_2 (bX4_chance_51 σ3 a1 a3 a4 v4 v5) 1000 0 0
        else
          some ((-2), σ)
def fX4_seed (σ : eSt) (z : Int64) (a1 : Int64) : Option (Int64 × eSt × Int64) :=
  e_bnd (a1) fun z1 =>
  some (z, σ, z1)
def fX4_days_94 (k27 : Int32 → Int32 → Int32 → eSt → Int64 → Option (Int32 × eSt × Int64)) (σ : eSt) (z : Int64) (a1 : Int32) (a2 : Int32) (a3 : Int32) (a4 : Int32) : Option (Int32 × eSt × Int64) :=
  (fX4_hourBehind a2).bind fun v1 =>
  e_bnd (a4 + 1) fun v2 =>
  k27 v1 a3 v2 σ z
def bX4_days_27 (a1 : Int32) (k27 : Int32 → Int32 → Int32 → eSt → Int64 → Option (Int32 × eSt × Int64)) (a2 : Int32) (a3 : Int32) (a4 : Int32) (σ : eSt) (z : Int64) : Option (Int32 × eSt × Int64) :=
  if a1 ≤ a4 then
    some (a3, σ, z)
  else
    e_bnd ((z * 6364136223846793005) + 1442695040888963407) fun z1 =>
    e_bnd ((e_lrem (e_lushr z1 33) 64).toInt32) fun v2 =>
    (fX4_fillSetsNow σ a2).bind fun σ3 =>
    (fX4_liveSounds σ3).bind fun v4 =>
    (fX4_isSure σ3 (σ3 9 0) (v4 &&& (v2 ^^^ (-1)))).bind fun v5 =>
    if v5 = 0 then
      fX4_days_94 k27 σ3 z1 a1 a2 a3 a4
    else
      e_bnd (a3 + 1) fun v6 =>
      fX4_days_94 k27 σ3 z1 a1 a2 v6 a4
def fX4_days (σ : eSt) (z : Int64) (a1 : Int32) : Option (Int32 × eSt × Int64) :=
  if a1 < 1 then
    some ((-2), σ, z)
  else
    if a1 ≤ 30 then
      e_bnd (σ 9 1) fun v1 =>
      lo_5 (bX4_days_27 a1) 1000 v1 0 0 σ z
    else
      some ((-2), σ, z)
def fX4_keep (σ : eSt) (a1 : Int32) : Option (Int32 × eSt) :=
  if a1 < 0 then
    some ((-1), σ)
  else
    if a1 < 2 then
      (fX0_packed σ).bind fun v1 =>
      if e_in a1 2 then e_bnd (e_up σ 16 a1.toNatClampNeg v1) fun σ2 =>
      some (σ2 9 1, σ2)
      else none
    else
      some ((-1), σ)
def fX4_again (σ : eSt) (a1 : Int32) : Option (Int32 × eSt) :=
  if a1 < 0 then
    some ((-1), σ)
  else
    if a1 < 2 then
      if e_in a1 2 then
      if (σ 16 a1.toNatClampNeg) = (-1) then
        some ((-3), σ)
      else
        if e_in a1 2 then
        (fX0_unpack σ (σ 16 a1.toNatClampNeg)).bind fun σ1 =>
        e_bnd (e_up σ1 0 5 0) fun σ2 =>
        some (σ2 9 1, σ2)
        else none
      else none
    else
      some ((-1), σ)
def fX5_in (a0 : Int64) (a2 : Int64) (a4 : Int64) : Option (Int32) :=
  if (lg_cmp a0 a2) < 0 then
    if e_isb 0 then some 0 else none
  else
    if 0 < (lg_cmp a0 a4) then
      if e_isb 0 then some 0 else none
    else
      if e_isb 1 then some 1 else none
def fX5_has (a0 : Int32) (a1 : Int32) : Option (Int32) :=
  if ((e_shr a0 a1) &&& 1) = 1 then
    if e_isb 1 then some 1 else none
  else
    if e_isb 0 then some 0 else none
def bX5_bits_4 (a0 : Int32) (k4 : Int32 → Int32 → Option (Int32)) (a1 : Int32) (a2 : Int32) : Option (Int32) :=
  if 10 ≤ a2 then
    some a1
  else
    e_bnd (a1 + ((e_shr a0 a2) &&& 1)) fun v1 =>
    e_bnd (a2 + 1) fun v2 =>
    k4 v1 v2
def fX5_bits (a0 : Int32) : Option (Int32) :=
  lo_2 (bX5_bits_4 a0) 1000 0 0
def fX5_far (a0 : Int32) (a1 : Int32) : Option (Int32) :=
  if a1 ≤ a0 then
    some (a0 - a1)
  else
    some (a1 - a0)
def fX5_noSound (σ : eSt) (a1 : Int32) : Option (Int32) :=
  (fX5_in (a1.toInt64) 0 (((σ 0 4) - 1).toInt64)).bind fun v1 =>
  if v1 = 0 then
    if e_isb 1 then some 1 else none
  else
    if e_isb 0 then some 0 else none
def fX5_noCell (a0 : Int32) : Option (Int32) :=
  (fX5_in (a0.toInt64) 0 9).bind fun v1 =>
  if v1 = 0 then
    if e_isb 1 then some 1 else none
  else
    if e_isb 0 then some 0 else none
def fX5_noHour (a0 : Int32) : Option (Int32) :=
  (fX5_in (a0.toInt64) 0 9).bind fun v1 =>
  if v1 = 0 then
    if e_isb 1 then some 1 else none
  else
    if e_isb 0 then some 0 else none
def fX5_write (σ : eSt) (a1 : Int32) : Option (Int32 × eSt) :=
  e_bnd (e_up σ 0 0 0) fun σ1 =>
  (fX5_in (a1.toInt64) 0 255).bind fun v2 =>
  if v2 = 0 then
    some ((-2), σ1)
  else
    if (σ1 0 2) = 40 then
      some ((-4), σ1)
    else
      if e_in (σ1 0 2) 40 then e_bnd (e_up σ1 1 (σ1 0 2).toNatClampNeg a1) fun σ3 =>
      e_bnd (e_up σ3 0 2 ((σ3 0 2) + 1)) fun σ4 =>
      some (σ4 0 2, σ4)
      else none
def fX5_wipe (σ : eSt) : Option (Int32 × eSt) :=
  e_bnd (e_up σ 0 0 0) fun σ1 =>
  e_bnd (σ1 0 2) fun v2 =>
  e_bnd (e_up σ1 0 2 0) fun σ3 =>
  some (v2, σ3)
def fX5_figure (σ : eSt) (a1 : Int32) (a2 : Int32) : Option (Int32 × eSt) :=
  if (σ 0 3) = (σ 0 2) then
    some ((-9), σ)
  else
    if e_in (σ 0 3) 40 then
    (fX5_in (((σ 1 (σ 0 3).toNatClampNeg) - 48).toInt64) (a1.toInt64) (a2.toInt64)).bind fun v1 =>
    if v1 = 0 then
      some ((-9), σ)
    else
      e_bnd (e_up σ 0 3 ((σ 0 3) + 1)) fun σ2 =>
      if e_in ((σ2 0 3) - 1) 40 then
      some ((σ2 1 ((σ2 0 3) - 1).toNatClampNeg) - 48, σ2)
      else none
    else none
def fX5_readHead_56 (σ : eSt) (s0 : Int32) : Option (Int32 × eSt) :=
  e_bnd (e_up σ 0 9 s0) fun σ1 =>
  if (σ1 0 9) = (-9) then
    if e_isb 0 then some (0, σ1) else none
  else
    if e_isb 1 then some (1, σ1) else none
def fX5_readHead_32 (σ : eSt) (s0 : Int32) : Option (Int32 × eSt) :=
  e_bnd (e_up σ 0 8 s0) fun σ1 =>
  if (σ1 0 8) = (-9) then
    fX5_readHead_56 σ1 (-9)
  else
    (fX5_figure σ1 0 2).bind fun w2 =>
    fX5_readHead_56 w2.2 w2.1
def fX5_readHead (σ : eSt) : Option (Int32 × eSt) :=
  (fX5_figure σ 0 9).bind fun w1 =>
  e_bnd (e_up w1.2 0 7 w1.1) fun σ2 =>
  if (σ2 0 7) = (-9) then
    fX5_readHead_32 σ2 (-9)
  else
    (fX5_figure σ2 0 4).bind fun w3 =>
    fX5_readHead_32 w3.2 w3.1
def fX5_readPart_54 (k9 : Int32 → eSt → Option (Int32 × eSt)) (σ : eSt) (a1 : Int32) (a2 : Int32) (s0 : Int32) (s1 : Int32) : Option (Int32 × eSt) :=
  (fX5_figure σ s1 s0).bind fun w1 =>
  if w1.1 = (-9) then
    if e_isb 0 then some (0, w1.2) else none
  else
    if e_in (a1 + a2) 30 then e_bnd (e_up w1.2 3 (a1 + a2).toNatClampNeg w1.1) fun σ2 =>
    e_bnd (a2 + 1) fun v3 =>
    k9 v3 σ2
    else none
def fX5_readPart_40 (k9 : Int32 → eSt → Option (Int32 × eSt)) (σ : eSt) (a1 : Int32) (a2 : Int32) (s0 : Int32) : Option (Int32 × eSt) :=
  if a2 = 4 then
    fX5_readPart_54 k9 σ a1 a2 3 s0
  else
    fX5_readPart_54 k9 σ a1 a2 9 s0
def bX5_readPart_9 (a1 : Int32) (k9 : Int32 → eSt → Option (Int32 × eSt)) (a2 : Int32) (σ : eSt) : Option (Int32 × eSt) :=
  if 5 ≤ a2 then
    e_bnd (e_up σ 0 6 ((σ 0 6) + 1)) fun σ1 =>
    if e_isb 1 then some (1, σ1) else none
  else
    if a2 = 1 then
      fX5_readPart_40 k9 σ a1 a2 1
    else
      if a2 = 3 then
        if e_in (a1 + 2) 30 then
        fX5_readPart_40 k9 σ a1 a2 (σ 3 (a1 + 2).toNatClampNeg)
        else none
      else
        fX5_readPart_40 k9 σ a1 a2 0
def fX5_readPart (σ : eSt) : Option (Int32 × eSt) :=
  e_bnd (5 * (σ 0 6)) fun v1 =>
  lo_2 (bX5_readPart_9 v1) 1000 0 σ
def bX5_readRiver_47 (k47 : eSt → Option (Int32 × eSt)) (σ : eSt) : Option (Int32 × eSt) :=
  if (σ 0 2) ≤ (σ 0 3) then
    some ((-9), σ)
  else
    if e_in (σ 0 3) 40 then
    if (σ 1 (σ 0 3).toNatClampNeg) = 83 then
      if (σ 0 6) = 6 then
        some (σ 0 3, σ)
      else
        e_bnd (e_up σ 0 3 ((σ 0 3) + 1)) fun σ1 =>
        (fX5_readPart σ1).bind fun w2 =>
        if w2.1 = 0 then
          some (w2.2 0 3, w2.2)
        else
          k47 w2.2
    else
      some (σ 0 3, σ)
    else none
def fX5_readRiver (σ : eSt) : Option (Int32 × eSt) :=
  e_bnd (e_up σ 0 3 0) fun σ1 =>
  e_bnd (e_up σ1 0 6 0) fun σ2 =>
  if (σ2 0 2) = 0 then
    some (0, σ2)
  else
    if (σ2 1 0) = 82 then
      e_bnd (e_up σ2 0 3 1) fun σ3 =>
      (fX5_readHead σ3).bind fun w4 =>
      if w4.1 = 0 then
        some (w4.2 0 3, w4.2)
      else
        lo_1 (bX5_readRiver_47) 1000 w4.2
    else
      some (0, σ2)
def fX5_fault (σ : eSt) : Option (Int32 × eSt) :=
  e_bnd (e_up σ 0 0 0) fun σ1 =>
  (fX5_readRiver σ1).bind fun w2 =>
  some (w2.1, w2.2)
def bX5_river_27 (k27 : Int32 → eSt → Option (Int32 × eSt)) (a1 : Int32) (σ : eSt) : Option (Int32 × eSt) :=
  if (5 * (σ 0 4)) ≤ a1 then
    e_bnd (e_up σ 4 0 (σ 0 7)) fun σ1 =>
    e_bnd (e_up σ1 4 1 0) fun σ2 =>
    e_bnd (e_up σ2 4 2 0) fun σ3 =>
    e_bnd (e_up σ3 4 3 0) fun σ4 =>
    e_bnd (e_up σ4 4 4 (-9)) fun σ5 =>
    e_bnd (e_up σ5 4 5 (-9)) fun σ6 =>
    e_bnd (e_up σ6 4 6 (σ6 0 8)) fun σ7 =>
    e_bnd (e_up σ7 4 7 (σ7 0 9)) fun σ8 =>
    e_bnd (e_up σ8 0 14 0) fun σ9 =>
    e_bnd (e_up σ9 8 0 (vp_nar .boolean 0)) fun σ10 =>
    e_bnd (e_up σ10 8 1 (vp_nar .boolean 0)) fun σ11 =>
    some (σ11 0 4, σ11)
  else
    if e_in a1 30 then
    if e_in a1 30 then e_bnd (e_up σ 2 a1.toNatClampNeg (σ 3 a1.toNatClampNeg)) fun σ12 =>
    e_bnd (a1 + 1) fun v13 =>
    k27 v13 σ12
    else none
    else none
def fX5_river (σ : eSt) : Option (Int32 × eSt) :=
  e_bnd (e_up σ 0 0 0) fun σ1 =>
  (fX5_readRiver σ1).bind fun w2 =>
  if w2.1 = (-9) then
    e_bnd (e_up w2.2 0 4 (w2.2 0 6)) fun σ3 =>
    lo_2 (bX5_river_27) 1000 0 σ3
  else
    some ((-3), w2.2)
def fX5_carries_46 (σ : eSt) (q : Nat) (a2 : Int32) (a4 : Int32) (a5 : Int32) (s0 : Int32) : Option (Int32) :=
  (fX5_far a4 s0).bind fun v1 =>
  if a2 ≤ (a5 + v1) then
    if e_isb 0 then some 0 else none
  else
    if e_isb 1 then some 1 else none
def fX5_carries_27 (σ : eSt) (q : Nat) (a1 : Int32) (a2 : Int32) (a3 : Int32) (a4 : Int32) (s0 : Int32) : Option (Int32) :=
  if a3 = 3 then
    fX5_carries_46 σ q a2 a4 s0 a1
  else
    fX5_carries_46 σ q a2 a4 s0 ((a1 + (σ q 7)) - 1)
def fX5_carries (σ : eSt) (q : Nat) (a1 : Int32) (a2 : Int32) (a3 : Int32) (a4 : Int32) : Option (Int32) :=
  if a3 = 1 then
    fX5_carries_27 σ q a1 a2 a3 a4 0
  else
    if a3 = 2 then
      fX5_carries_27 σ q a1 a2 a3 a4 (2 * (σ q 6))
    else
      fX5_carries_27 σ q a1 a2 a3 a4 (σ q 6)
def fX5_hears (σ : eSt) (q : Nat) (a2 : Int32) (a3 : Int32) (a4 : Int32) : Option (Int32) :=
  e_bnd (5 * a2) fun v1 =>
  (fX5_has (σ q 2) a2).bind fun v2 =>
  if v2 = 0 then
    if e_in (v1 + 2) 30 then
    if e_in (v1 + 3) 30 then
    (fX5_in (a4.toInt64) ((σ 2 (v1 + 2).toNatClampNeg).toInt64) ((σ 2 (v1 + 3).toNatClampNeg).toInt64)).bind fun v3 =>
    if v3 = 0 then
      if e_isb 0 then some 0 else none
    else
      if e_in v1 30 then
      if e_in (v1 + 1) 30 then
      if e_in (v1 + 4) 30 then
      (fX5_carries σ q (σ 2 v1.toNatClampNeg) (σ 2 (v1 + 1).toNatClampNeg) (σ 2 (v1 + 4).toNatClampNeg) a3).bind fun v4 =>
      if v4 = 0 then
        if e_isb 0 then some 0 else none
      else
        if e_isb 1 then some 1 else none
      else none
      else none
      else none
    else none
    else none
  else
    if e_isb 0 then some 0 else none
def fX5_heardAt_108 (σ : eSt) (q : Nat) (s0 : Int32) (s1 : Int32) : Option (Int32) :=
  e_bnd (s1 ||| s0) fun v1 =>
  some v1
def fX5_heardAt_107 (σ : eSt) (q : Nat) (s0 : Int32) : Option (Int32) :=
  fX5_heardAt_108 σ q 0 s0
def fX5_heardAt_75 (σ : eSt) (q : Nat) (a2 : Int32) (s0 : Int32) (s1 : Int32) : Option (Int32) :=
  e_bnd (s1 ||| s0) fun v1 =>
  if (σ q 5) = (-9) then
    fX5_heardAt_107 σ q v1
  else
    (fX5_carries σ q (σ q 5) 3 0 a2).bind fun v2 =>
    if v2 = 0 then
      fX5_heardAt_107 σ q v1
    else
      fX5_heardAt_108 σ q 128 v1
def fX5_heardAt_74 (σ : eSt) (q : Nat) (a2 : Int32) (s0 : Int32) : Option (Int32) :=
  fX5_heardAt_75 σ q a2 0 s0
def fX5_heardAt_37 (k6 : Int32 → Int32 → Option (Int32)) (σ : eSt) (q : Nat) (a2 : Int32) (a3 : Int32) (a5 : Int32) (s0 : Int32) (s1 : Int32) : Option (Int32) :=
  e_bnd (s1 ||| s0) fun v1 =>
  e_bnd (a5 + 1) fun v2 =>
  k6 v1 v2
def bX5_heardAt_6 (σ : eSt) (q : Nat) (a2 : Int32) (a3 : Int32) (k6 : Int32 → Int32 → Option (Int32)) (a4 : Int32) (a5 : Int32) : Option (Int32) :=
  if (σ 0 4) ≤ a5 then
    if (σ q 4) = (-9) then
      fX5_heardAt_74 σ q a2 a4
    else
      (fX5_carries σ q (σ q 4) 3 0 a2).bind fun v1 =>
      if v1 = 0 then
        fX5_heardAt_74 σ q a2 a4
      else
        fX5_heardAt_75 σ q a2 64 a4
  else
    (fX5_hears σ q a5 a2 a3).bind fun v2 =>
    if v2 = 0 then
      fX5_heardAt_37 k6 σ q a2 a3 a5 0 a4
    else
      fX5_heardAt_37 k6 σ q a2 a3 a5 (e_shl 1 a5) a4
def fX5_heardAt (σ : eSt) (q : Nat) (a2 : Int32) (a3 : Int32) : Option (Int32) :=
  lo_2 (bX5_heardAt_6 σ q a2 a3) 1000 0 0
def fX5_sureAt_112 (k36 : Int32 → Int32 → Option (Int32 × eSt)) (σ : eSt) (q : Nat) (a4 : Int32) (s0 : Int32) (s1 : Int32) : Option (Int32 × eSt) :=
  e_bnd (s1 ||| s0) fun v1 =>
  e_bnd (a4 + 1) fun v2 =>
  k36 v1 v2
def fX5_sureAt_90 (k36 : Int32 → Int32 → Option (Int32 × eSt)) (k49 : Int32 → Int32 → Option (Int32 × eSt)) (σ : eSt) (q : Nat) (a3 : Int32) (a4 : Int32) (a6 : Int32) (s0 : Int32) : Option (Int32 × eSt) :=
  e_bnd (a6 + 1) fun v1 =>
  k49 s0 v1
def fX5_sureAt_89 (k36 : Int32 → Int32 → Option (Int32 × eSt)) (k49 : Int32 → Int32 → Option (Int32 × eSt)) (σ : eSt) (q : Nat) (a3 : Int32) (a4 : Int32) (a6 : Int32) : Option (Int32 × eSt) :=
  fX5_sureAt_90 k36 k49 σ q a3 a4 a6 0
def fX5_sureAt_85 (k36 : Int32 → Int32 → Option (Int32 × eSt)) (k49 : Int32 → Int32 → Option (Int32 × eSt)) (σ : eSt) (q : Nat) (a3 : Int32) (a4 : Int32) (a6 : Int32) : Option (Int32 × eSt) :=
  fX5_sureAt_90 k36 k49 σ q a3 a4 a6 1
def bX5_sureAt_49 (k36 : Int32 → Int32 → Option (Int32 × eSt)) (σ : eSt) (q : Nat) (a3 : Int32) (a4 : Int32) (k49 : Int32 → Int32 → Option (Int32 × eSt)) (a5 : Int32) (a6 : Int32) : Option (Int32 × eSt) :=
  if 10 ≤ a6 then
    if a5 = 0 then
      fX5_sureAt_112 k36 σ q a4 0 a3
    else
      fX5_sureAt_112 k36 σ q a4 (e_shl 1 a4) a3
  else
    if a5 = 0 then
      fX5_sureAt_89 k36 k49 σ q a3 a4 a6
    else
      if a4 = a6 then
        fX5_sureAt_85 k36 k49 σ q a3 a4 a6
      else
        if e_in a4 10 then
        if e_in a6 10 then
        if (σ 13 a4.toNatClampNeg) = (σ 13 a6.toNatClampNeg) then
          fX5_sureAt_89 k36 k49 σ q a3 a4 a6
        else
          fX5_sureAt_85 k36 k49 σ q a3 a4 a6
        else none
        else none
def bX5_sureAt_36 (σ : eSt) (q : Nat) (k36 : Int32 → Int32 → Option (Int32 × eSt)) (a3 : Int32) (a4 : Int32) : Option (Int32 × eSt) :=
  if 10 ≤ a4 then
    some (a3, σ)
  else
    lo_2 (bX5_sureAt_49 k36 σ q a3 a4) 1000 1 0
def bX5_sureAt_5 (q : Nat) (a2 : Int32) (a3 : Int32) (k5 : Int32 → eSt → Option (Int32 × eSt)) (a4 : Int32) (σ : eSt) : Option (Int32 × eSt) :=
  if 10 ≤ a4 then
    lo_2 (bX5_sureAt_36 σ q) 1000 a3 0
  else
    (fX5_heardAt σ q a4 a2).bind fun v1 =>
    if e_in a4 10 then e_bnd (e_up σ 13 a4.toNatClampNeg v1) fun σ2 =>
    e_bnd (a4 + 1) fun v3 =>
    k5 v3 σ2
    else none
def fX5_sureAt (σ : eSt) (q : Nat) (a2 : Int32) : Option (Int32 × eSt) :=
  lo_2 (bX5_sureAt_5 q a2 0) 1000 0 σ
def bX5_begin_2 (k2 : Int32 → eSt → Option (eSt)) (a1 : Int32) (σ : eSt) : Option (eSt) :=
  if 8 ≤ a1 then
    some σ
  else
    if e_in a1 8 then
    if e_in a1 8 then e_bnd (e_up σ 5 a1.toNatClampNeg (σ 4 a1.toNatClampNeg)) fun σ1 =>
    e_bnd (a1 + 1) fun v2 =>
    k2 v2 σ1
    else none
    else none
def fX5_begin (σ : eSt) : Option (eSt) :=
  lo_2 (bX5_begin_2) 1000 0 σ
def fX5_about (σ : eSt) (a1 : Int32) : Option (Int32 × eSt) :=
  e_bnd (e_up σ 0 0 0) fun σ1 =>
  if a1 = 0 then
      some (σ1 0 4, σ1)
  else
  if a1 = 1 then
      some (σ1 4 0, σ1)
  else
  if a1 = 2 then
      some (σ1 4 1, σ1)
  else
  if a1 = 3 then
      some (σ1 4 6, σ1)
  else
  if a1 = 4 then
      some (σ1 4 7, σ1)
  else
  if a1 = 5 then
      some (σ1 4 2, σ1)
  else
  if a1 = 6 then
      some (σ1 4 3, σ1)
  else
  if a1 = 7 then
      some (σ1 4 4, σ1)
  else
  if a1 = 8 then
      some (σ1 4 5, σ1)
  else
  if a1 = 9 then
      some (σ1 0 14, σ1)
  else
  if a1 = 10 then
      some (σ1 0 17, σ1)
  else
  if a1 = 11 then
      some (σ1 0 2, σ1)
  else
    some ((-2), σ1)
def fX5_sound_87 (k51 : Int32 → Int32 → Option (Int32 × eSt)) (σ : eSt) (a1 : Int32) (a4 : Int32) (s0 : Int32) (s1 : Int32) : Option (Int32 × eSt) :=
  e_bnd (s1 ||| s0) fun v1 =>
  e_bnd (a4 + 1) fun v2 =>
  k51 v1 v2
def bX5_sound_51 (σ : eSt) (a1 : Int32) (k51 : Int32 → Int32 → Option (Int32 × eSt)) (a3 : Int32) (a4 : Int32) : Option (Int32 × eSt) :=
  if 10 ≤ a4 then
    some (a3, σ)
  else
    (fX5_hears σ 4 a1 a4 (σ 4 1)).bind fun v1 =>
    if v1 = 0 then
      fX5_sound_87 k51 σ a1 a4 0 a3
    else
      fX5_sound_87 k51 σ a1 a4 (e_shl 1 a4) a3
def fX5_sound (σ : eSt) (a1 : Int32) (a2 : Int32) : Option (Int32 × eSt) :=
  e_bnd (e_up σ 0 0 0) fun σ1 =>
  (fX5_noSound σ1 a1).bind fun v2 =>
  if v2 = 0 then
    (fX5_in (a2.toInt64) 0 4).bind fun v3 =>
    if v3 = 0 then
      if a2 = 5 then
        lo_2 (bX5_sound_51 σ1 a1) 1000 0 0
      else
        some ((-2), σ1)
    else
      if e_in ((5 * a1) + a2) 30 then
      some (σ1 2 ((5 * a1) + a2).toNatClampNeg, σ1)
      else none
  else
    some ((-1), σ1)
def bX5_note_50 (k50 : Int32 → eSt → Option (eSt)) (a1 : Int32) (σ : eSt) : Option (eSt) :=
  if 8 ≤ a1 then
    e_bnd (e_up σ 0 14 ((σ 0 14) + 1)) fun σ1 =>
    some σ1
  else
    if e_in a1 8 then
    if e_in ((8 * (σ 0 14)) + a1) 112 then e_bnd (e_up σ 6 ((8 * (σ 0 14)) + a1).toNatClampNeg (σ 4 a1.toNatClampNeg)) fun σ2 =>
    e_bnd (a1 + 1) fun v3 =>
    k50 v3 σ2
    else none
    else none
def fX5_note_48 (σ : eSt) : Option (eSt) :=
  lo_2 (bX5_note_50) 1000 0 σ
def bX5_note_11 (k11 : Int32 → eSt → Option (eSt)) (a1 : Int32) (σ : eSt) : Option (eSt) :=
  if 104 ≤ a1 then
    e_bnd (e_up σ 0 14 ((σ 0 14) - 1)) fun σ1 =>
    fX5_note_48 σ1
  else
    if e_in (a1 + 8) 112 then
    if e_in a1 112 then e_bnd (e_up σ 6 a1.toNatClampNeg (σ 6 (a1 + 8).toNatClampNeg)) fun σ2 =>
    e_bnd (a1 + 1) fun v3 =>
    k11 v3 σ2
    else none
    else none
def fX5_note (σ : eSt) : Option (eSt) :=
  if (σ 0 14) = 14 then
    lo_2 (bX5_note_11) 1000 0 σ
  else
    fX5_note_48 σ
def fX5_row_36 (σ : eSt) (s0 : Int32) (s1 : Int32) : Option (Int32 × eSt) :=
  e_bnd (s1 + s0) fun v1 =>
  (fX5_noCell v1).bind fun v2 =>
  if v2 = 0 then
    (fX5_note σ).bind fun σ3 =>
    e_bnd (e_up σ3 4 0 v1) fun σ4 =>
    (fX5_heardAt σ4 4 v1 (σ4 4 1)).bind fun v5 =>
    some (v5, σ4)
  else
    some ((-3), σ)
def fX5_row (σ : eSt) (a1 : Int32) : Option (Int32 × eSt) :=
  e_bnd (e_up σ 0 0 0) fun σ1 =>
  (fX5_in (a1.toInt64) 1 2).bind fun v2 =>
  if v2 = 0 then
    some ((-2), σ1)
  else
    if a1 = 1 then
      fX5_row_36 σ1 1 (σ1 4 0)
    else
      fX5_row_36 σ1 (-1) (σ1 4 0)
def fX5_hush (σ : eSt) (a1 : Int32) : Option (Int32 × eSt) :=
  e_bnd (e_up σ 0 0 0) fun σ1 =>
  (fX5_noSound σ1 a1).bind fun v2 =>
  if v2 = 0 then
    (fX5_note σ1).bind fun σ3 =>
    e_bnd (e_up σ3 4 2 ((σ3 4 2) ^^^ (e_shl 1 a1))) fun σ4 =>
    some ((e_shr (σ4 4 2) a1) &&& 1, σ4)
  else
    some ((-1), σ1)
def fX5_hammer_156 (σ : eSt) : Option (Int32 × eSt) :=
  some (σ 4 3, σ)
def fX5_hammer_104 (σ : eSt) (s0 : Int32) (s1 : Int32) : Option (Int32 × eSt) :=
  if e_in s1 8 then e_bnd (e_up σ 4 s1.toNatClampNeg s0) fun σ1 =>
  e_bnd (e_up σ1 4 5 (-9)) fun σ2 =>
  e_bnd (e_up σ2 4 3 ((σ2 4 3) - 1)) fun σ3 =>
  fX5_hammer_156 σ3
  else none
def fX5_hammer_80 (σ : eSt) (a2 : Int32) : Option (Int32 × eSt) :=
  if a2 = 0 then
    fX5_hammer_104 σ (σ 4 4) 4
  else
    fX5_hammer_104 σ (σ 4 5) 4
def fX5_hammer_144 (σ : eSt) (a1 : Int32) (s0 : Int32) : Option (Int32 × eSt) :=
  if e_in s0 8 then e_bnd (e_up σ 4 s0.toNatClampNeg a1) fun σ1 =>
  e_bnd (e_up σ1 4 3 ((σ1 4 3) + 1)) fun σ2 =>
  fX5_hammer_156 σ2
  else none
def fX5_hammer_68 (σ : eSt) (a1 : Int32) (a2 : Int32) (a3 : Int32) : Option (Int32 × eSt) :=
  (fX5_note σ).bind fun σ1 =>
  if a2 = 0 then
    if a3 = 0 then
      if (σ1 4 3) = 0 then
        fX5_hammer_144 σ1 a1 4
      else
        fX5_hammer_144 σ1 a1 5
    else
      fX5_hammer_80 σ1 a2
  else
    fX5_hammer_80 σ1 a2
def fX5_hammer_46 (σ : eSt) (a1 : Int32) (a2 : Int32) (s0 : Int32) : Option (Int32 × eSt) :=
  if a2 = 0 then
    if s0 = 0 then
      if (σ 4 3) = 2 then
        some ((-4), σ)
      else
        fX5_hammer_68 σ a1 a2 s0
    else
      fX5_hammer_68 σ a1 a2 s0
  else
    fX5_hammer_68 σ a1 a2 s0
def fX5_hammer_30 (σ : eSt) (a1 : Int32) (s0 : Int32) : Option (Int32 × eSt) :=
  if (σ 4 5) = a1 then
    fX5_hammer_46 σ a1 s0 1
  else
    fX5_hammer_46 σ a1 s0 0
def fX5_hammer (σ : eSt) (a1 : Int32) : Option (Int32 × eSt) :=
  e_bnd (e_up σ 0 0 0) fun σ1 =>
  (fX5_noCell a1).bind fun v2 =>
  if v2 = 0 then
    if (σ1 4 4) = a1 then
      fX5_hammer_30 σ1 a1 1
    else
      fX5_hammer_30 σ1 a1 0
  else
    some ((-2), σ1)
def fX5_change (σ : eSt) (a1 : Int32) (a2 : Int32) : Option (Int32 × eSt) :=
  e_bnd (e_up σ 0 0 0) fun σ1 =>
  (fX5_in (a1.toInt64) 0 4).bind fun v2 =>
  if v2 = 0 then
    some ((-2), σ1)
  else
    (fX5_in (a2.toInt64) 0 2).bind fun v3 =>
    if v3 = 0 then
      some ((-2), σ1)
    else
      e_bnd ((10 * (σ1 4 6)) + (σ1 4 7)) fun v4 =>
      if v4 = ((10 * a1) + a2) then
        some ((-3), σ1)
      else
        (fX5_note σ1).bind fun σ5 =>
        e_bnd (e_up σ5 4 6 a1) fun σ6 =>
        e_bnd (e_up σ6 4 7 a2) fun σ7 =>
        some (v4, σ7)
def fX5_hour (σ : eSt) : Option (Int32 × eSt) :=
  e_bnd (e_up σ 0 0 0) fun σ1 =>
  (fX5_note σ1).bind fun σ2 =>
  e_bnd (e_up σ2 4 1 (e_rem ((σ2 4 1) + 1) 10)) fun σ3 =>
  some (σ3 4 1, σ3)
def bX5_undo_27 (k27 : Int32 → eSt → Option (Int32 × eSt)) (a1 : Int32) (σ : eSt) : Option (Int32 × eSt) :=
  if 8 ≤ a1 then
    some (σ 0 14, σ)
  else
    if e_in ((8 * (σ 0 14)) + a1) 112 then
    if e_in a1 8 then e_bnd (e_up σ 4 a1.toNatClampNeg (σ 6 ((8 * (σ 0 14)) + a1).toNatClampNeg)) fun σ1 =>
    e_bnd (a1 + 1) fun v2 =>
    k27 v2 σ1
    else none
    else none
def fX5_undo (σ : eSt) : Option (Int32 × eSt) :=
  e_bnd (e_up σ 0 0 0) fun σ1 =>
  if (σ1 0 14) = 0 then
    some ((-3), σ1)
  else
    e_bnd (e_up σ1 0 14 ((σ1 0 14) - 1)) fun σ2 =>
    lo_2 (bX5_undo_27) 1000 0 σ2
def fX5_heard (σ : eSt) (a1 : Int32) (a2 : Int32) : Option (Int32 × eSt) :=
  e_bnd (e_up σ 0 0 0) fun σ1 =>
  (fX5_noCell a1).bind fun v2 =>
  if v2 = 0 then
    (fX5_noHour a2).bind fun v3 =>
    if v3 = 0 then
      (fX5_heardAt σ1 4 a1 a2).bind fun v4 =>
      some (v4, σ1)
    else
      some ((-2), σ1)
  else
    some ((-2), σ1)
def fX5_sure (σ : eSt) (a1 : Int32) : Option (Int32 × eSt) :=
  e_bnd (e_up σ 0 0 0) fun σ1 =>
  (fX5_noHour a1).bind fun v2 =>
  if v2 = 0 then
    (fX5_sureAt σ1 4 a1).bind fun w3 =>
    some (w3.1, w3.2)
  else
    some ((-2), σ1)
def fX5_where_63 (k32 : Int32 → Int32 → Option (Int32 × eSt)) (σ : eSt) (a1 : Int32) (a2 : Int32) (a4 : Int32) (s0 : Int32) (s1 : Int32) : Option (Int32 × eSt) :=
  e_bnd (s1 ||| s0) fun v1 =>
  e_bnd (a4 + 1) fun v2 =>
  k32 v1 v2
def bX5_where_32 (σ : eSt) (a1 : Int32) (a2 : Int32) (k32 : Int32 → Int32 → Option (Int32 × eSt)) (a3 : Int32) (a4 : Int32) : Option (Int32 × eSt) :=
  if 10 ≤ a4 then
    some (a3, σ)
  else
    (fX5_heardAt σ 4 a4 a2).bind fun v1 =>
    if v1 = a1 then
      fX5_where_63 k32 σ a1 a2 a4 (e_shl 1 a4) a3
    else
      fX5_where_63 k32 σ a1 a2 a4 0 a3
def fX5_where (σ : eSt) (a1 : Int32) (a2 : Int32) : Option (Int32 × eSt) :=
  e_bnd (e_up σ 0 0 0) fun σ1 =>
  (fX5_in (a1.toInt64) 0 255).bind fun v2 =>
  if v2 = 0 then
    some ((-2), σ1)
  else
    (fX5_noHour a2).bind fun v3 =>
    if v3 = 0 then
      lo_2 (bX5_where_32 σ1 a1 a2) 1000 0 0
    else
      some ((-2), σ1)
def fX5_when_63 (k32 : Int32 → Int32 → Option (Int32 × eSt)) (σ : eSt) (a1 : Int32) (a2 : Int32) (a4 : Int32) (s0 : Int32) (s1 : Int32) : Option (Int32 × eSt) :=
  e_bnd (s1 ||| s0) fun v1 =>
  e_bnd (a4 + 1) fun v2 =>
  k32 v1 v2
def bX5_when_32 (σ : eSt) (a1 : Int32) (a2 : Int32) (k32 : Int32 → Int32 → Option (Int32 × eSt)) (a3 : Int32) (a4 : Int32) : Option (Int32 × eSt) :=
  if 10 ≤ a4 then
    some (a3, σ)
  else
    (fX5_heardAt σ 4 a2 a4).bind fun v1 =>
    if v1 = a1 then
      fX5_when_63 k32 σ a1 a2 a4 (e_shl 1 a4) a3
    else
      fX5_when_63 k32 σ a1 a2 a4 0 a3
def fX5_when (σ : eSt) (a1 : Int32) (a2 : Int32) : Option (Int32 × eSt) :=
  e_bnd (e_up σ 0 0 0) fun σ1 =>
  (fX5_in (a1.toInt64) 0 255).bind fun v2 =>
  if v2 = 0 then
    some ((-2), σ1)
  else
    (fX5_noCell a2).bind fun v3 =>
    if v3 = 0 then
      lo_2 (bX5_when_32 σ1 a1 a2) 1000 0 0
    else
      some ((-2), σ1)
def fX5_spared_105 (k25 : Int32 → Int32 → Int32 → eSt → Option (Int32 × eSt)) (σ : eSt) (a1 : Int32) (a2 : Int32) (a3 : Int32) (a4 : Int32) : Option (Int32 × eSt) :=
  e_bnd (a4 + 1) fun v1 =>
  k25 a2 a3 v1 σ
def fX5_spared_104 (k25 : Int32 → Int32 → Int32 → eSt → Option (Int32 × eSt)) (σ : eSt) (a1 : Int32) (a2 : Int32) (a4 : Int32) (s0 : Int32) : Option (Int32 × eSt) :=
  fX5_spared_105 k25 σ a1 a2 s0 a4
def fX5_spared_91 (k25 : Int32 → Int32 → Int32 → eSt → Option (Int32 × eSt)) (σ : eSt) (a1 : Int32) (a3 : Int32) (a4 : Int32) (a5 : Int32) (s0 : Int32) : Option (Int32 × eSt) :=
  if a3 ≤ a5 then
    fX5_spared_104 k25 σ a1 s0 a4 a3
  else
    fX5_spared_104 k25 σ a1 s0 a4 a5
def bX5_spared_25 (a1 : Int32) (k25 : Int32 → Int32 → Int32 → eSt → Option (Int32 × eSt)) (a2 : Int32) (a3 : Int32) (a4 : Int32) (σ : eSt) : Option (Int32 × eSt) :=
  if (σ 0 4) ≤ a4 then
    some (a2, σ)
  else
    (fX5_has (σ 4 2) a4).bind fun v1 =>
    if v1 = 0 then
      (fX5_begin σ).bind fun σ2 =>
      e_bnd (e_up σ2 5 2 ((σ2 5 2) ||| (e_shl 1 a4))) fun σ3 =>
      (fX5_sureAt σ3 5 a1).bind fun w4 =>
      (fX5_bits w4.1).bind fun v5 =>
      if a3 ≤ v5 then
        fX5_spared_91 k25 w4.2 a1 a3 a4 v5 a2
      else
        fX5_spared_91 k25 w4.2 a1 a3 a4 v5 a4
    else
      fX5_spared_105 k25 σ a1 a2 a3 a4
def fX5_spared (σ : eSt) (a1 : Int32) : Option (Int32 × eSt) :=
  e_bnd (e_up σ 0 0 0) fun σ1 =>
  (fX5_noHour a1).bind fun v2 =>
  if v2 = 0 then
    lo_4 (bX5_spared_25 a1) 1000 (-9) 9999 0 σ1
  else
    some ((-2), σ1)
def bX5_orders_4 (a0 : Int32) (k4 : Int32 → Int32 → Option (Int32)) (a1 : Int32) (a2 : Int32) : Option (Int32) :=
  if a0 < a2 then
    some a1
  else
    e_bnd (a1 * a2) fun v1 =>
    e_bnd (a2 + 1) fun v2 =>
    k4 v1 v2
def fX5_orders (a0 : Int32) : Option (Int32) :=
  lo_2 (bX5_orders_4 a0) 1000 1 2
def bX5_divisor_13 (k13 : Int32 → Int32 → Option (Int32)) (a2 : Int32) (a3 : Int32) : Option (Int32) :=
  if a3 = 0 then
    some a2
  else
    if a3 = 0 then none else
    e_bnd (e_rem a2 a3) fun v1 =>
    k13 a3 v1
def fX5_divisor_10 (a1 : Int32) (s0 : Int32) : Option (Int32) :=
  lo_2 (bX5_divisor_13) 1000 s0 a1
def fX5_divisor (a0 : Int32) (a1 : Int32) : Option (Int32) :=
  if 0 ≤ a0 then
    fX5_divisor_10 a1 a0
  else
    fX5_divisor_10 a1 (-a0)
def fX5_fraction (a0 : Int32) (a1 : Int32) (a2 : Int32) : Option (Int32) :=
  (fX5_divisor a0 a1).bind fun v1 =>
  if a2 = 0 then
    if v1 = 0 then none else
    some (a1 / v1)
  else
    if v1 = 0 then none else
    some (a0 / v1)
def fX5_worth_216 (σ : eSt) (a3 : Int32) (a6 : Int32) (a7 : Int32) : Option (Int32 × eSt) :=
  (fX5_orders a6).bind fun v1 =>
  (fX5_fraction a7 v1 a3).bind fun v2 =>
  some (v2, σ)
def fX5_worth_210 (k127 : Int32 → Int32 → Option (Int32 × eSt)) (σ : eSt) (a1 : Int32) (a3 : Int32) (a4 : Int32) (a5 : Int32) (a6 : Int32) (a7 : Int32) (a8 : Int32) : Option (Int32 × eSt) :=
  e_bnd (a8 + 1) fun v1 =>
  k127 a7 v1
def bX5_worth_127 (σ : eSt) (a1 : Int32) (a3 : Int32) (a4 : Int32) (a5 : Int32) (a6 : Int32) (k127 : Int32 → Int32 → Option (Int32 × eSt)) (a7 : Int32) (a8 : Int32) : Option (Int32 × eSt) :=
  if a4 < a8 then
    fX5_worth_216 σ a3 a6 a7
  else
    (fX5_has a5 a1).bind fun v1 =>
    if v1 = 0 then
      fX5_worth_216 σ a3 a6 a7
    else
      if (a8 &&& (a5 ^^^ (-1))) = 0 then
        (fX5_has a8 a1).bind fun v2 =>
        if v2 = 0 then
          (fX5_bits a8).bind fun v3 =>
          (fX5_orders v3).bind fun v4 =>
          (fX5_orders ((a6 - 1) - v3)).bind fun v5 =>
          if e_in (a8 ||| (e_shl 1 a1)) 64 then
          if e_in a8 64 then
          e_bnd (a7 + ((v4 * v5) * ((σ 14 (a8 ||| (e_shl 1 a1)).toNatClampNeg) - (σ 14 a8.toNatClampNeg)))) fun v6 =>
          fX5_worth_210 k127 σ a1 a3 a4 a5 a6 v6 a8
          else none
          else none
        else
          fX5_worth_210 k127 σ a1 a3 a4 a5 a6 a7 a8
      else
        fX5_worth_210 k127 σ a1 a3 a4 a5 a6 a7 a8
def fX5_worth_114 (k58 : Int32 → eSt → Option (Int32 × eSt)) (σ : eSt) (a1 : Int32) (a2 : Int32) (a3 : Int32) (a4 : Int32) (a5 : Int32) (a6 : Int32) (a7 : Int32) (s0 : Int32) (s1 : Int32) : Option (Int32 × eSt) :=
  if e_in s1 64 then e_bnd (e_up σ 14 s1.toNatClampNeg s0) fun σ1 =>
  e_bnd (a7 + 1) fun v2 =>
  k58 v2 σ1
  else none
def bX5_worth_58 (a1 : Int32) (a2 : Int32) (a3 : Int32) (a4 : Int32) (a5 : Int32) (a6 : Int32) (k58 : Int32 → eSt → Option (Int32 × eSt)) (a7 : Int32) (σ : eSt) : Option (Int32 × eSt) :=
  if a4 < a7 then
    lo_2 (bX5_worth_127 σ a1 a3 a4 a5 a6) 1000 0 0
  else
    (fX5_begin σ).bind fun σ1 =>
    e_bnd (e_up σ1 5 2 (a4 &&& (a7 ^^^ (-1)))) fun σ2 =>
    if (a7 &&& (a5 ^^^ (-1))) = 0 then
      (fX5_sureAt σ2 5 a2).bind fun w3 =>
      (fX5_bits w3.1).bind fun v4 =>
      fX5_worth_114 k58 w3.2 a1 a2 a3 a4 a5 a6 a7 v4 a7
    else
      fX5_worth_114 k58 σ2 a1 a2 a3 a4 a5 a6 a7 0 a7
def fX5_worth (σ : eSt) (a1 : Int32) (a2 : Int32) (a3 : Int32) : Option (Int32 × eSt) :=
  e_bnd (e_up σ 0 0 0) fun σ1 =>
  (fX5_noSound σ1 a1).bind fun v2 =>
  if v2 = 0 then
    (fX5_noHour a2).bind fun v3 =>
    if v3 = 0 then
      e_bnd ((e_shl 1 (σ1 0 4)) - 1) fun v4 =>
      e_bnd (v4 &&& ((σ1 4 2) ^^^ (-1))) fun v5 =>
      (fX5_bits v5).bind fun v6 =>
      lo_2 (bX5_worth_58 a1 a2 a3 v4 v5 v6) 1000 0 σ1
    else
      some ((-2), σ1)
  else
    some ((-1), σ1)
def fX5_sureWith (σ : eSt) (a1 : Int32) (a2 : Int32) (a3 : Int32) : Option (Int32 × eSt) :=
  (fX5_begin σ).bind fun σ1 =>
  e_bnd (e_up σ1 5 4 a1) fun σ2 =>
  e_bnd (e_up σ2 5 5 a2) fun σ3 =>
  (fX5_sureAt σ3 5 a3).bind fun w4 =>
  (fX5_bits w4.1).bind fun v5 =>
  some (v5, w4.2)
def fX5_findHammers_135 (k82 : Int32 → eSt → Option (eSt)) (σ : eSt) (a1 : Int32) (a2 : Int32) (a3 : Int32) : Option (eSt) :=
  e_bnd (a3 + 1) fun v1 =>
  k82 v1 σ
def bX5_findHammers_82 (a1 : Int32) (a2 : Int32) (k82 : Int32 → eSt → Option (eSt)) (a3 : Int32) (σ : eSt) : Option (eSt) :=
  if 100 ≤ a3 then
    some σ
  else
    if (σ 0 26) = (-9) then
      if (e_rem a3 10) ≤ (a3 / 10) then
        fX5_findHammers_135 k82 σ a1 a2 a3
      else
        (fX5_sureWith σ (a3 / 10) (e_rem a3 10) a1).bind fun w1 =>
        if w1.1 < a2 then
          fX5_findHammers_135 k82 w1.2 a1 a2 a3
        else
          e_bnd (e_up w1.2 0 26 2) fun σ2 =>
          e_bnd (e_up σ2 0 27 a3) fun σ3 =>
          fX5_findHammers_135 k82 σ3 a1 a2 a3
    else
      some σ
def fX5_findHammers_80 (σ : eSt) (a1 : Int32) (a2 : Int32) : Option (eSt) :=
  lo_2 (bX5_findHammers_82 a1 a2) 1000 0 σ
def fX5_findHammers_74 (k37 : Int32 → eSt → Option (eSt)) (σ : eSt) (a1 : Int32) (a2 : Int32) (a3 : Int32) : Option (eSt) :=
  e_bnd (a3 + 1) fun v1 =>
  k37 v1 σ
def bX5_findHammers_37 (a1 : Int32) (a2 : Int32) (k37 : Int32 → eSt → Option (eSt)) (a3 : Int32) (σ : eSt) : Option (eSt) :=
  if 10 ≤ a3 then
    fX5_findHammers_80 σ a1 a2
  else
    if (σ 0 26) = (-9) then
      (fX5_sureWith σ a3 (-9) a1).bind fun w1 =>
      if w1.1 < a2 then
        fX5_findHammers_74 k37 w1.2 a1 a2 a3
      else
        e_bnd (e_up w1.2 0 26 1) fun σ2 =>
        e_bnd (e_up σ2 0 27 a3) fun σ3 =>
        fX5_findHammers_74 k37 σ3 a1 a2 a3
    else
      fX5_findHammers_80 σ a1 a2
def fX5_findHammers_35 (σ : eSt) (a1 : Int32) (a2 : Int32) : Option (eSt) :=
  lo_2 (bX5_findHammers_37 a1 a2) 1000 0 σ
def fX5_findHammers (σ : eSt) (a1 : Int32) (a2 : Int32) : Option (eSt) :=
  e_bnd (e_up σ 0 26 (-9)) fun σ1 =>
  e_bnd (e_up σ1 0 27 (-9)) fun σ2 =>
  (fX5_sureWith σ2 (-9) (-9) a1).bind fun w3 =>
  if w3.1 < a2 then
    fX5_findHammers_35 w3.2 a1 a2
  else
    e_bnd (e_up w3.2 0 26 0) fun σ4 =>
    e_bnd (e_up σ4 0 27 0) fun σ5 =>
    fX5_findHammers_35 σ5 a1 a2
def fX5_hammers (σ : eSt) (a1 : Int32) (a2 : Int32) (a3 : Int32) : Option (Int32 × eSt) :=
  e_bnd (e_up σ 0 0 0) fun σ1 =>
  (fX5_noHour a1).bind fun v2 =>
  if v2 = 0 then
    (fX5_in (a2.toInt64) 1 10).bind fun v3 =>
    if v3 = 0 then
      some ((-2), σ1)
    else
      (fX5_in (a3.toInt64) 0 1).bind fun v4 =>
      if v4 = 0 then
        some ((-2), σ1)
      else
        (fX5_findHammers σ1 a1 a2).bind fun σ5 =>
        if a3 = 0 then
          some (σ5 0 26, σ5)
        else
          some (σ5 0 27, σ5)
  else
    some ((-2), σ1)
def fX5_bestHours_131 (k44 : Int32 → eSt → Option (Int32 × eSt)) (σ : eSt) (a1 : Int32) (a2 : Int32) (a3 : Int32) (s0 : Int32) : Option (Int32 × eSt) :=
  e_bnd (e_up σ 0 29 s0) fun σ1 =>
  e_bnd (a3 + 1) fun v2 =>
  k44 v2 σ1
def fX5_bestHours_109 (k44 : Int32 → eSt → Option (Int32 × eSt)) (σ : eSt) (a1 : Int32) (a2 : Int32) (a3 : Int32) (a4 : Int32) (s0 : Int32) : Option (Int32 × eSt) :=
  e_bnd (e_up σ 0 28 s0) fun σ1 =>
  if a4 ≤ (σ1 0 29) then
    fX5_bestHours_131 k44 σ1 a1 a2 a3 (σ1 0 29)
  else
    fX5_bestHours_131 k44 σ1 a1 a2 a3 a4
def bX5_bestHours_56 (k44 : Int32 → eSt → Option (Int32 × eSt)) (a1 : Int32) (a2 : Int32) (a3 : Int32) (k56 : Int32 → Int32 → eSt → Option (Int32 × eSt)) (a4 : Int32) (a5 : Int32) (σ : eSt) : Option (Int32 × eSt) :=
  if a1 ≤ a5 then
    if a4 ≤ (σ 0 29) then
      fX5_bestHours_109 k44 σ a1 a2 a3 a4 (σ 0 28)
    else
      fX5_bestHours_109 k44 σ a1 a2 a3 a4 a3
  else
    (fX5_sureAt σ 4 (e_rem (a3 + a5) 10)).bind fun w1 =>
    (fX5_bits w1.1).bind fun v2 =>
    e_bnd (a4 + v2) fun v3 =>
    e_bnd (a5 + 1) fun v4 =>
    k56 v3 v4 w1.2
def bX5_bestHours_44 (a1 : Int32) (a2 : Int32) (k44 : Int32 → eSt → Option (Int32 × eSt)) (a3 : Int32) (σ : eSt) : Option (Int32 × eSt) :=
  if 10 ≤ a3 then
    if a2 = 0 then
      some (σ 0 28, σ)
    else
      some (σ 0 29, σ)
  else
    lo_3 (bX5_bestHours_56 k44 a1 a2 a3) 1000 0 0 σ
def fX5_bestHours (σ : eSt) (a1 : Int32) (a2 : Int32) : Option (Int32 × eSt) :=
  e_bnd (e_up σ 0 0 0) fun σ1 =>
  (fX5_in (a1.toInt64) 1 10).bind fun v2 =>
  if v2 = 0 then
    some ((-2), σ1)
  else
    (fX5_in (a2.toInt64) 0 1).bind fun v3 =>
    if v3 = 0 then
      some ((-2), σ1)
    else
      e_bnd (e_up σ1 0 29 (-9)) fun σ4 =>
      e_bnd (e_up σ4 0 28 (-9)) fun σ5 =>
      lo_2 (bX5_bestHours_44 a1 a2) 1000 0 σ5
def fX5_grounded_136 (k103 : Int32 → Int32 → Option (Int32 × eSt)) (σ : eSt) (a2 : Int32) (a5 : Int32) (a8 : Int32) (s0 : Int32) (s1 : Int32) : Option (Int32 × eSt) :=
  e_bnd (s1 ||| s0) fun v1 =>
  e_bnd (a8 + 1) fun v2 =>
  k103 v1 v2
def bX5_grounded_103 (σ : eSt) (a2 : Int32) (a5 : Int32) (k103 : Int32 → Int32 → Option (Int32 × eSt)) (a7 : Int32) (a8 : Int32) : Option (Int32 × eSt) :=
  if 10 ≤ a8 then
    some (a7, σ)
  else
    (fX5_carries σ 4 a8 a5 0 a2).bind fun v1 =>
    if v1 = 0 then
      fX5_grounded_136 k103 σ a2 a5 a8 0 a7
    else
      fX5_grounded_136 k103 σ a2 a5 a8 (e_shl 1 a8) a7
def fX5_grounded (σ : eSt) (a1 : Int32) (a2 : Int32) (a3 : Int32) (a4 : Int32) (a5 : Int32) : Option (Int32 × eSt) :=
  e_bnd (e_up σ 0 0 0) fun σ1 =>
  (fX5_noSound σ1 a1).bind fun v2 =>
  if v2 = 0 then
    (fX5_noCell a2).bind fun v3 =>
    if v3 = 0 then
      (fX5_noCell a3).bind fun v4 =>
      if v4 = 0 then
        (fX5_noHour a4).bind fun v5 =>
        if v5 = 0 then
          (fX5_in (a5.toInt64) 1 9).bind fun v6 =>
          if v6 = 0 then
            some ((-2), σ1)
          else
            (fX5_heardAt σ1 4 a2 a4).bind fun v7 =>
            (fX5_has v7 a1).bind fun v8 =>
            if v8 = 0 then
              (fX5_heardAt σ1 4 a3 a4).bind fun v9 =>
              if (v7 ||| (e_shl 1 a1)) = v9 then
                lo_2 (bX5_grounded_103 σ1 a2 a5) 1000 0 0
              else
                some (0, σ1)
            else
              some (0, σ1)
        else
          some ((-2), σ1)
      else
        some ((-2), σ1)
    else
      some ((-2), σ1)
  else
    some ((-1), σ1)
def fX5_see (σ : eSt) (a1 : Int32) (a2 : Int32) (a3 : Int32) (a4 : Int32) : Option (Int32 × eSt) :=
  e_bnd (e_up σ 0 0 0) fun σ1 =>
  (fX5_noSound σ1 a1).bind fun v2 =>
  if v2 = 0 then
    (fX5_noCell a2).bind fun v3 =>
    if v3 = 0 then
      (fX5_noHour a3).bind fun v4 =>
      if v4 = 0 then
        if (σ1 0 17) = 6 then
          some ((-4), σ1)
        else
          if e_in (σ1 0 17) 6 then e_bnd (e_up σ1 9 (σ1 0 17).toNatClampNeg a1) fun σ5 =>
          if e_in (σ5 0 17) 6 then e_bnd (e_up σ5 10 (σ5 0 17).toNatClampNeg a2) fun σ6 =>
          if e_in (σ6 0 17) 6 then e_bnd (e_up σ6 11 (σ6 0 17).toNatClampNeg a3) fun σ7 =>
          if e_in (σ7 0 17) 6 then e_bnd (e_up σ7 12 (σ7 0 17).toNatClampNeg (vp_nar .boolean a4)) fun σ8 =>
          e_bnd (e_up σ8 0 17 ((σ8 0 17) + 1)) fun σ9 =>
          some (σ9 0 17, σ9)
          else none
          else none
          else none
          else none
      else
        some ((-2), σ1)
    else
      some ((-2), σ1)
  else
    some ((-1), σ1)
def fX5_unsee (σ : eSt) : Option (Int32 × eSt) :=
  e_bnd (e_up σ 0 0 0) fun σ1 =>
  e_bnd (σ1 0 17) fun v2 =>
  e_bnd (e_up σ1 0 17 0) fun σ3 =>
  some (v2, σ3)
def fX5_weather_186 (k31 : Int32 → eSt → Option (Int32 × eSt)) (σ : eSt) (a1 : Int32) (a2 : Int32) : Option (Int32 × eSt) :=
  e_bnd (a2 + 1) fun v1 =>
  k31 v1 σ
def fX5_weather_173 (k31 : Int32 → eSt → Option (Int32 × eSt)) (σ : eSt) (a1 : Int32) (a2 : Int32) (s0 : Int32) : Option (Int32 × eSt) :=
  e_bnd (e_up σ 0 31 s0) fun σ1 =>
  e_bnd (e_up σ1 0 30 ((σ1 0 30) + 1)) fun σ2 =>
  fX5_weather_186 k31 σ2 a1 a2
def fX5_weather_144 (k31 : Int32 → eSt → Option (Int32 × eSt)) (σ : eSt) (a1 : Int32) (a2 : Int32) (a3 : Int32) : Option (Int32 × eSt) :=
  if a3 = 0 then
    fX5_weather_186 k31 σ a1 a2
  else
    if (σ 0 30) = 0 then
      fX5_weather_173 k31 σ a1 a2 ((10 * (a2 / 3)) + (e_rem a2 3))
    else
      fX5_weather_173 k31 σ a1 a2 (σ 0 31)
def fX5_weather_137 (k31 : Int32 → eSt → Option (Int32 × eSt)) (k66 : Int32 → Int32 → Option (Int32 × eSt)) (σ : eSt) (a1 : Int32) (a2 : Int32) (a4 : Int32) (s0 : Int32) : Option (Int32 × eSt) :=
  e_bnd (a4 + 1) fun v1 =>
  k66 s0 v1
def fX5_weather_132 (k31 : Int32 → eSt → Option (Int32 × eSt)) (k66 : Int32 → Int32 → Option (Int32 × eSt)) (σ : eSt) (a1 : Int32) (a2 : Int32) (a4 : Int32) : Option (Int32 × eSt) :=
  fX5_weather_137 k31 k66 σ a1 a2 a4 1
def bX5_weather_66 (k31 : Int32 → eSt → Option (Int32 × eSt)) (σ : eSt) (a1 : Int32) (a2 : Int32) (k66 : Int32 → Int32 → Option (Int32 × eSt)) (a3 : Int32) (a4 : Int32) : Option (Int32 × eSt) :=
  if (σ 0 17) ≤ a4 then
    fX5_weather_144 k31 σ a1 a2 a3
  else
    if a3 = 0 then
      fX5_weather_144 k31 σ a1 a2 a3
    else
      if e_in a4 6 then
      if (σ 0 4) ≤ (σ 9 a4.toNatClampNeg) then
        fX5_weather_132 k31 k66 σ a1 a2 a4
      else
        if e_in a4 6 then
        if e_in a4 6 then
        if e_in a4 6 then
        (fX5_hears σ 5 (σ 9 a4.toNatClampNeg) (σ 10 a4.toNatClampNeg) (σ 11 a4.toNatClampNeg)).bind fun v1 =>
        if e_in a4 6 then
        if v1 = (σ 12 a4.toNatClampNeg) then
          fX5_weather_132 k31 k66 σ a1 a2 a4
        else
          fX5_weather_137 k31 k66 σ a1 a2 a4 0
        else none
        else none
        else none
        else none
      else none
def bX5_weather_31 (a1 : Int32) (k31 : Int32 → eSt → Option (Int32 × eSt)) (a2 : Int32) (σ : eSt) : Option (Int32 × eSt) :=
  if 15 ≤ a2 then
    if a1 = 0 then
      some (σ 0 30, σ)
    else
      some (σ 0 31, σ)
  else
    (fX5_begin σ).bind fun σ1 =>
    e_bnd (e_up σ1 5 6 (a2 / 3)) fun σ2 =>
    e_bnd (e_up σ2 5 7 (e_rem a2 3)) fun σ3 =>
    lo_2 (bX5_weather_66 k31 σ3 a1 a2) 1000 1 0
def fX5_weather (σ : eSt) (a1 : Int32) : Option (Int32 × eSt) :=
  e_bnd (e_up σ 0 0 0) fun σ1 =>
  (fX5_in (a1.toInt64) 0 1).bind fun v2 =>
  if v2 = 0 then
    some ((-2), σ1)
  else
    e_bnd (e_up σ1 0 30 0) fun σ3 =>
    e_bnd (e_up σ3 0 31 (-9)) fun σ4 =>
    lo_2 (bX5_weather_31 a1) 1000 0 σ4
def fX5_canBoth (a0 : Int32) (a1 : Int32) : Option (Int32) :=
  if a0 = a1 then
    if a0 = 10 then
      if e_isb 1 then some 1 else none
    else
      if e_isb 0 then some 0 else none
  else
    if e_isb 1 then some 1 else none
def fX5_doRest_105 (k9 : Int32 → Int32 → Option (Int32)) (σ : eSt) (a1 : Int32) (a2 : Int32) (a4 : Int32) (s0 : Int32) : Option (Int32) :=
  e_bnd (a4 + 1) fun v1 =>
  k9 s0 v1
def fX5_doRest_104 (k9 : Int32 → Int32 → Option (Int32)) (σ : eSt) (a1 : Int32) (a2 : Int32) (a4 : Int32) : Option (Int32) :=
  fX5_doRest_105 k9 σ a1 a2 a4 0
def fX5_doRest_100 (k9 : Int32 → Int32 → Option (Int32)) (σ : eSt) (a1 : Int32) (a2 : Int32) (a4 : Int32) : Option (Int32) :=
  fX5_doRest_105 k9 σ a1 a2 a4 1
def fX5_doRest_60 (k9 : Int32 → Int32 → Option (Int32)) (σ : eSt) (a1 : Int32) (a2 : Int32) (a4 : Int32) (s0 : Int32) : Option (Int32) :=
  if s0 = 0 then
    fX5_doRest_104 k9 σ a1 a2 a4
  else
    (fX5_canBoth a1 a4).bind fun v1 =>
    if v1 = 0 then
      fX5_doRest_100 k9 σ a1 a2 a4
    else
      if e_in ((11 * a1) + a4) 121 then
      if e_in ((11 * a1) + a2) 121 then
      if (σ 15 ((11 * a1) + a4).toNatClampNeg) < (σ 15 ((11 * a1) + a2).toNatClampNeg) then
        fX5_doRest_104 k9 σ a1 a2 a4
      else
        fX5_doRest_100 k9 σ a1 a2 a4
      else none
      else none
def fX5_doRest_55 (k9 : Int32 → Int32 → Option (Int32)) (σ : eSt) (a1 : Int32) (a2 : Int32) (a4 : Int32) : Option (Int32) :=
  fX5_doRest_60 k9 σ a1 a2 a4 1
def bX5_doRest_9 (σ : eSt) (a1 : Int32) (a2 : Int32) (k9 : Int32 → Int32 → Option (Int32)) (a3 : Int32) (a4 : Int32) : Option (Int32) :=
  if 10 < a4 then
    if e_isb a3 then some a3 else none
  else
    if a3 = 0 then
      if e_isb a3 then some a3 else none
    else
      (fX5_canBoth a4 a2).bind fun v1 =>
      if v1 = 0 then
        fX5_doRest_55 k9 σ a1 a2 a4
      else
        if e_in ((11 * a4) + a2) 121 then
        if e_in ((11 * a1) + a2) 121 then
        if (σ 15 ((11 * a1) + a2).toNatClampNeg) < (σ 15 ((11 * a4) + a2).toNatClampNeg) then
          fX5_doRest_60 k9 σ a1 a2 a4 0
        else
          fX5_doRest_55 k9 σ a1 a2 a4
        else none
        else none
def fX5_doRest (σ : eSt) (a1 : Int32) (a2 : Int32) : Option (Int32) :=
  (fX5_canBoth a1 a2).bind fun v1 =>
  lo_2 (bX5_doRest_9 σ a1 a2) 1000 v1 0
def fX5_rivals_139 (k99 : Int32 → Int32 → Int32 → Option (Int32 × eSt)) (σ : eSt) (a2 : Int32) (a3 : Int32) (a4 : Int32) (a5 : Int32) : Option (Int32 × eSt) :=
  e_bnd (a5 + 1) fun v1 =>
  k99 a3 a4 v1
def fX5_rivals_134 (k99 : Int32 → Int32 → Int32 → Option (Int32 × eSt)) (σ : eSt) (a2 : Int32) (a3 : Int32) (a5 : Int32) (s0 : Int32) : Option (Int32 × eSt) :=
  e_bnd (a3 + 1) fun v1 =>
  fX5_rivals_139 k99 σ a2 v1 s0 a5
def bX5_rivals_99 (σ : eSt) (a2 : Int32) (k99 : Int32 → Int32 → Int32 → Option (Int32 × eSt)) (a3 : Int32) (a4 : Int32) (a5 : Int32) : Option (Int32 × eSt) :=
  if 121 ≤ a5 then
    if a2 = 0 then
      some (a3, σ)
    else
      some (a4, σ)
  else
    (fX5_doRest σ (a5 / 11) (e_rem a5 11)).bind fun v1 =>
    if v1 = 0 then
      fX5_rivals_139 k99 σ a2 a3 a4 a5
    else
      if a3 = 0 then
        fX5_rivals_134 k99 σ a2 a3 a5 a5
      else
        fX5_rivals_134 k99 σ a2 a3 a5 a4
def fX5_rivals_79 (k27 : Int32 → eSt → Option (Int32 × eSt)) (σ : eSt) (a1 : Int32) (a2 : Int32) (a3 : Int32) (s0 : Int32) (s1 : Int32) (s3 : Int32) : Option (Int32 × eSt) :=
  (fX5_sureWith σ s1 s0 a1).bind fun w1 =>
  if e_in s3 121 then e_bnd (e_up w1.2 15 s3.toNatClampNeg w1.1) fun σ2 =>
  e_bnd (a3 + 1) fun v3 =>
  k27 v3 σ2
  else none
def fX5_rivals_65 (k27 : Int32 → eSt → Option (Int32 × eSt)) (σ : eSt) (a1 : Int32) (a2 : Int32) (a3 : Int32) (a5 : Int32) (s0 : Int32) (s2 : Int32) : Option (Int32 × eSt) :=
  if a5 = 10 then
    fX5_rivals_79 k27 σ a1 a2 a3 (-9) s0 s2
  else
    fX5_rivals_79 k27 σ a1 a2 a3 a5 s0 s2
def bX5_rivals_27 (a1 : Int32) (a2 : Int32) (k27 : Int32 → eSt → Option (Int32 × eSt)) (a3 : Int32) (σ : eSt) : Option (Int32 × eSt) :=
  if 121 ≤ a3 then
    lo_3 (bX5_rivals_99 σ a2) 1000 0 (-9) 0
  else
    e_bnd (a3 / 11) fun v1 =>
    e_bnd (e_rem a3 11) fun v2 =>
    if v1 = 10 then
      fX5_rivals_65 k27 σ a1 a2 a3 v2 (-9) a3
    else
      fX5_rivals_65 k27 σ a1 a2 a3 v2 v1 a3
def fX5_rivals (σ : eSt) (a1 : Int32) (a2 : Int32) : Option (Int32 × eSt) :=
  e_bnd (e_up σ 0 0 0) fun σ1 =>
  (fX5_noHour a1).bind fun v2 =>
  if v2 = 0 then
    (fX5_in (a2.toInt64) 0 1).bind fun v3 =>
    if v3 = 0 then
      some ((-2), σ1)
    else
      lo_2 (bX5_rivals_27 a1 a2) 1000 0 σ1
  else
    some ((-2), σ1)
def fX5_chance_190 (k66 : Int32 → Int32 → Int32 → eSt → Option (Int32 × eSt)) (σ : eSt) (a1 : Int32) (a2 : Int32) (a3 : Int32) (a4 : Int32) (a5 : Int32) (a6 : Int32) (a7 : Int32) (a8 : Int32) (a9 : Int32) : Option (Int32 × eSt) :=
  e_bnd (a9 + 1) fun v1 =>
  k66 a7 a8 v1 σ
def fX5_chance_187 (k66 : Int32 → Int32 → Int32 → eSt → Option (Int32 × eSt)) (σ : eSt) (a1 : Int32) (a2 : Int32) (a3 : Int32) (a4 : Int32) (a5 : Int32) (a6 : Int32) (a8 : Int32) (a9 : Int32) (s0 : Int32) (s1 : Int32) : Option (Int32 × eSt) :=
  e_bnd (s1 + s0) fun v1 =>
  fX5_chance_190 k66 σ a1 a2 a3 a4 a5 a6 v1 a8 a9
def fX5_chance_132 (k66 : Int32 → Int32 → Int32 → eSt → Option (Int32 × eSt)) (k89 : Int32 → Int32 → Option (Int32 × eSt)) (σ : eSt) (a1 : Int32) (a2 : Int32) (a3 : Int32) (a4 : Int32) (a5 : Int32) (a6 : Int32) (a7 : Int32) (a8 : Int32) (a9 : Int32) (a11 : Int32) (s0 : Int32) (s1 : Int32) : Option (Int32 × eSt) :=
  e_bnd (s1 * s0) fun v1 =>
  e_bnd (a11 + 1) fun v2 =>
  k89 v1 v2
def bX5_chance_89 (k66 : Int32 → Int32 → Int32 → eSt → Option (Int32 × eSt)) (σ : eSt) (a1 : Int32) (a2 : Int32) (a3 : Int32) (a4 : Int32) (a5 : Int32) (a6 : Int32) (a7 : Int32) (a8 : Int32) (a9 : Int32) (k89 : Int32 → Int32 → Option (Int32 × eSt)) (a10 : Int32) (a11 : Int32) : Option (Int32 × eSt) :=
  if (σ 0 4) ≤ a11 then
    (fX5_begin σ).bind fun σ1 =>
    e_bnd (e_up σ1 5 2 ((σ1 5 2) ||| a9)) fun σ2 =>
    e_bnd (a8 + a10) fun v3 =>
    (fX5_sureAt σ2 5 a2).bind fun w4 =>
    (fX5_has w4.1 a1).bind fun v5 =>
    if v5 = 0 then
      fX5_chance_187 k66 w4.2 a1 a2 a3 a4 a5 a6 v3 a9 0 a7
    else
      fX5_chance_187 k66 w4.2 a1 a2 a3 a4 a5 a6 v3 a9 a10 a7
  else
    (fX5_has a6 a11).bind fun v6 =>
    if v6 = 0 then
      fX5_chance_132 k66 k89 σ a1 a2 a3 a4 a5 a6 a7 a8 a9 a11 1 a10
    else
      (fX5_has a9 a11).bind fun v7 =>
      if v7 = 0 then
        fX5_chance_132 k66 k89 σ a1 a2 a3 a4 a5 a6 a7 a8 a9 a11 (10 - a3) a10
      else
        fX5_chance_132 k66 k89 σ a1 a2 a3 a4 a5 a6 a7 a8 a9 a11 a3 a10
def bX5_chance_66 (a1 : Int32) (a2 : Int32) (a3 : Int32) (a4 : Int32) (a5 : Int32) (a6 : Int32) (k66 : Int32 → Int32 → Int32 → eSt → Option (Int32 × eSt)) (a7 : Int32) (a8 : Int32) (a9 : Int32) (σ : eSt) : Option (Int32 × eSt) :=
  if a5 < a9 then
    (fX5_fraction a7 a8 a4).bind fun v1 =>
    some (v1, σ)
  else
    if (a9 &&& (a6 ^^^ (-1))) = 0 then
      lo_2 (bX5_chance_89 k66 σ a1 a2 a3 a4 a5 a6 a7 a8 a9) 1000 1 0
    else
      fX5_chance_190 k66 σ a1 a2 a3 a4 a5 a6 a7 a8 a9
def fX5_chance (σ : eSt) (a1 : Int32) (a2 : Int32) (a3 : Int32) (a4 : Int32) : Option (Int32 × eSt) :=
  e_bnd (e_up σ 0 0 0) fun σ1 =>
  (fX5_noCell a1).bind fun v2 =>
  if v2 = 0 then
    (fX5_noHour a2).bind fun v3 =>
    if v3 = 0 then
      (fX5_in (a3.toInt64) 0 10).bind fun v4 =>
      if v4 = 0 then
        some ((-2), σ1)
      else
        e_bnd ((e_shl 1 (σ1 0 4)) - 1) fun v5 =>
        e_bnd (v5 &&& ((σ1 4 2) ^^^ (-1))) fun v6 =>
        lo_4 (bX5_chance_66 a1 a2 a3 a4 v5 v6) 1000 0 0 0 σ1
    else
      some ((-2), σ1)
  else
    some ((-2), σ1)
def fX5_seed (σ : eSt) (z : Int64) (a1 : Int64) : Option (Int64 × eSt × Int64) :=
  e_bnd (e_up σ 0 0 0) fun σ1 =>
  e_bnd (a1) fun z2 =>
  some (z, σ1, z2)
def fX5_days_107 (k24 : Int32 → Int32 → eSt → Int64 → Option (Int32 × eSt × Int64)) (σ : eSt) (z : Int64) (a1 : Int32) (a3 : Int32) (s0 : Int32) (s1 : Int32) : Option (Int32 × eSt × Int64) :=
  e_bnd (s1 + s0) fun v1 =>
  e_bnd (a3 + 1) fun v2 =>
  k24 v1 v2 σ z
def bX5_days_24 (a1 : Int32) (k24 : Int32 → Int32 → eSt → Int64 → Option (Int32 × eSt × Int64)) (a2 : Int32) (a3 : Int32) (σ : eSt) (z : Int64) : Option (Int32 × eSt × Int64) :=
  if a1 ≤ a3 then
    some (a2, σ, z)
  else
    e_bnd ((z * 6364136223846793005) + 1442695040888963407) fun z1 =>
    (fX5_begin σ).bind fun σ2 =>
    e_bnd (e_up σ2 5 2 ((σ2 5 2) ||| ((e_lrem (e_lushr z1 33) 64).toInt32))) fun σ3 =>
    (fX5_sureAt σ3 5 (e_rem ((σ3 4 1) + a3) 10)).bind fun w4 =>
    (fX5_has w4.1 (w4.2 4 0)).bind fun v5 =>
    if v5 = 0 then
      fX5_days_107 k24 w4.2 z1 a1 a3 0 a2
    else
      fX5_days_107 k24 w4.2 z1 a1 a3 1 a2
def fX5_days (σ : eSt) (z : Int64) (a1 : Int32) : Option (Int32 × eSt × Int64) :=
  e_bnd (e_up σ 0 0 0) fun σ1 =>
  (fX5_in (a1.toInt64) 1 30).bind fun v2 =>
  if v2 = 0 then
    some ((-2), σ1, z)
  else
    lo_4 (bX5_days_24 a1) 1000 0 0 σ1 z
def bX5_keep_26 (a1 : Int32) (k26 : Int32 → eSt → Option (Int32 × eSt)) (a2 : Int32) (σ : eSt) : Option (Int32 × eSt) :=
  if 8 ≤ a2 then
    some (σ 4 1, σ)
  else
    if e_in a2 8 then
    if e_in ((8 * a1) + a2) 16 then e_bnd (e_up σ 7 ((8 * a1) + a2).toNatClampNeg (σ 4 a2.toNatClampNeg)) fun σ1 =>
    e_bnd (a2 + 1) fun v2 =>
    k26 v2 σ1
    else none
    else none
def fX5_keep (σ : eSt) (a1 : Int32) : Option (Int32 × eSt) :=
  e_bnd (e_up σ 0 0 0) fun σ1 =>
  (fX5_in (a1.toInt64) 0 1).bind fun v2 =>
  if v2 = 0 then
    some ((-1), σ1)
  else
    if e_in a1 2 then e_bnd (e_up σ1 8 a1.toNatClampNeg (vp_nar .boolean 1)) fun σ3 =>
    lo_2 (bX5_keep_26 a1) 1000 0 σ3
    else none
def bX5_again_31 (a1 : Int32) (k31 : Int32 → eSt → Option (Int32 × eSt)) (a2 : Int32) (σ : eSt) : Option (Int32 × eSt) :=
  if 8 ≤ a2 then
    e_bnd (e_up σ 0 14 0) fun σ1 =>
    some (σ1 4 1, σ1)
  else
    if e_in ((8 * a1) + a2) 16 then
    if e_in a2 8 then e_bnd (e_up σ 4 a2.toNatClampNeg (σ 7 ((8 * a1) + a2).toNatClampNeg)) fun σ2 =>
    e_bnd (a2 + 1) fun v3 =>
    k31 v3 σ2
    else none
    else none
def fX5_again (σ : eSt) (a1 : Int32) : Option (Int32 × eSt) :=
  e_bnd (e_up σ 0 0 0) fun σ1 =>
  (fX5_in (a1.toInt64) 0 1).bind fun v2 =>
  if v2 = 0 then
    some ((-1), σ1)
  else
    if e_in a1 2 then
    if (σ1 8 a1.toNatClampNeg) = 0 then
      some ((-3), σ1)
    else
      lo_2 (bX5_again_31 a1) 1000 0 σ1
    else none
