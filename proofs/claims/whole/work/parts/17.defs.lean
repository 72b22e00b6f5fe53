def f_X2_init (μ : Mm) (a0 : Nat) (p1 : Int32) : Option Mm :=
  if gt (tg μ a0) then
    (pG μ a0 1 (0 : Int32)).bind fun x1 =>
    (pG x1 a0 0 p1).bind fun x2 =>
    some x2
  else none
def f_X0_init (μ : Mm) (a0 : Nat) (p1 : Int32) : Option Mm :=
  if tg μ a0 = 1 then
    (f_X2_init μ a0 p1).bind fun x1 =>
    some x1
  else none
def f_X0_kind (μ : Mm) (a0 : Nat) : Option Int32 :=
  if tg μ a0 = 1 then
    some (3 : Int32)
  else none
def f_X0_bareTread (μ : Mm) (a0 : Nat) : Option Int32 :=
  if tg μ a0 = 1 then
    some (0 : Int32)
  else none
def f_X1_init (μ : Mm) (a0 : Nat) (p1 : Int32) : Option Mm :=
  if (tg μ a0 = 2 ∨ tg μ a0 = 10) then
    (f_X2_init μ a0 p1).bind fun x1 =>
    some x1
  else none
def f_X1_kind (μ : Mm) (a0 : Nat) : Option Int32 :=
  if (tg μ a0 = 2 ∨ tg μ a0 = 10) then
    some (2 : Int32)
  else none
def f_X1_bareTread (μ : Mm) (a0 : Nat) : Option Int32 :=
  if (tg μ a0 = 2 ∨ tg μ a0 = 10) then
    (gG μ a0 0).bind fun x1 =>
    some (x1 - (1 : Int32))
  else none
def f_X2_kind (μ : Mm) (a0 : Nat) : Option Int32 :=
  if gt (tg μ a0) then
    some (0 : Int32)
  else none
def f_X2_bareTread (μ : Mm) (a0 : Nat) : Option Int32 :=
  if gt (tg μ a0) then
    (gG μ a0 0).bind fun x1 =>
    some x1
  else none
def f_X4_bareTread (μ : Mm) (a0 : Nat) : Option Int32 :=
  if (tg μ a0 = 5 ∨ tg μ a0 = 7) then
    (gG μ a0 0).bind fun x1 =>
    some ((2 : Int32) * x1)
  else none
def f_X6_uncountedFeet (μ : Mm) (a0 : Nat) : Option Int32 :=
  if tg μ a0 = 7 then
    (gG μ a0 0).bind fun x1 =>
    some (x1 / (2 : Int32))
  else none
def f_X6_bareTread (μ : Mm) (a0 : Nat) : Option Int32 :=
  if tg μ a0 = 7 then
    (f_X4_bareTread μ a0).bind fun x1 =>
    (f_X6_uncountedFeet μ a0).bind fun x2 =>
    some (x1 - x2)
  else none
def f_X9_bareTread (μ : Mm) (a0 : Nat) : Option Int32 :=
  if tg μ a0 = 10 then
    (f_X1_bareTread μ a0).bind fun x1 =>
    some (x1 / (2 : Int32))
  else none
def fv_2_bareTread (μ : Mm) (a0 : Nat) : Option Int32 :=
  if tg μ a0 = 1 then f_X0_bareTread μ a0 else
  if tg μ a0 = 2 then f_X1_bareTread μ a0 else
  if tg μ a0 = 3 then f_X2_bareTread μ a0 else
  if tg μ a0 = 5 then f_X4_bareTread μ a0 else
  if tg μ a0 = 7 then f_X6_bareTread μ a0 else
  if tg μ a0 = 10 then f_X9_bareTread μ a0 else none
def f_X2_treadOn (μ : Mm) (a0 : Nat) (p1 : Int32) : Option Int32 :=
  if gt (tg μ a0) then
    if p1 = (2 : Int32) then
      some (0 : Int32)
    else
      if p1 = (1 : Int32) then
        (fv_2_bareTread μ a0).bind fun x4 =>
        some (x4 / (2 : Int32))
      else
        (fv_2_bareTread μ a0).bind fun x3 =>
        some x3
  else none
def f_X8_init (μ : Mm) (a0 : Nat) (p1 : Int32) : Option Mm :=
  if tg μ a0 = 9 then
    (pI μ a0 9 1 (-1 : Int32)).bind fun x1 =>
    (nA x1 21 60 (if (0 : Int32) < p1 then p1 else (0 : Int32))).bind fun x2 =>
    (pP x2.2 a0 9 0 x2.1).bind fun x3 =>
    some x3
  else none
def lp_X8_open_19 : Nat → Nat → Int32 → Int32 → Mm → Option Mm
  | 0, _, _, _, _ => none
  | n+1, v0, v2, v3, μ =>
    (gI μ v0 9 1).bind fun x4 =>
    if x4 ≤ v3 then
      some μ
    else
      (gP μ v0 9 0).bind fun x6 =>
      (qI μ x6 21 v3 v2).bind fun x7 =>
      lp_X8_open_19 n v0 v2 (v3 + 1) x7
def f_X8_open (μ : Mm) (a0 : Nat) (p1 : Int32) (p2 : Int32) : Option Mm :=
  if tg μ a0 = 9 then
    (gP μ a0 9 0).bind fun x1 =>
    if tg μ x1 = 21 then
    (zI μ x1).bind fun x2 =>
    (pI μ a0 9 1 (if (0 : Int32) < (if x2 < p1 then x2 else p1) then (if x2 < p1 then x2 else p1) else (0 : Int32))).bind fun x3 =>
    (lp_X8_open_19 BIG a0 p2 (0 : Int32) x3).bind fun x8 =>
    some x8
    else none
  else none
def lp_X3_init_78 : Nat → Nat → Int32 → Mm → Option Mm
  | 0, _, _, _ => none
  | n+1, v0, v1, μ =>
    if (6 : Int32) ≤ v1 then
      some μ
    else
      (gP μ v0 4 0).bind fun x17 =>
      (f_X2_init (nw μ 3 0) (hz μ) (1 : Int32)).bind fun x19 =>
      (qG x19 x17 v1 (hz μ)).bind fun x20 =>
      lp_X3_init_78 n v0 (v1 + 1) x20
def f_X3_init (μ : Mm) (a0 : Nat) : Option Mm :=
  if tg μ a0 = 4 then
    (nA μ 24 6 (6 : Int32)).bind fun x1 =>
    (pP x1.2 a0 4 0 x1.1).bind fun x2 =>
    (f_X8_init (nw x2 9 0) (hz x2) (60 : Int32)).bind fun x4 =>
    (pP x4 a0 4 1 (hz x2)).bind fun x5 =>
    (pI x5 a0 4 2 (0 : Int32)).bind fun x6 =>
    (pI x6 a0 4 3 (0 : Int32)).bind fun x7 =>
    (pI x7 a0 4 4 (0 : Int32)).bind fun x8 =>
    (pI x8 a0 4 5 (0 : Int32)).bind fun x9 =>
    (pI x9 a0 4 6 (0 : Int32)).bind fun x10 =>
    (pI x10 a0 4 7 (0 : Int32)).bind fun x11 =>
    (pI x11 a0 4 8 (0 : Int32)).bind fun x12 =>
    (pI x12 a0 4 9 (0 : Int32)).bind fun x13 =>
    (pI x13 a0 4 10 (0 : Int32)).bind fun x14 =>
    (pL x14 a0 4 11 (0 : Int64)).bind fun x15 =>
    (lp_X3_init_78 7 a0 (0 : Int32) x15).bind fun x21 =>
    (gP x21 a0 4 1).bind fun x22 =>
    (f_X8_open x21 x22 (0 : Int32) (0 : Int32)).bind fun x23 =>
    some x23
  else none
def f_X4_init (μ : Mm) (a0 : Nat) (p1 : Int32) : Option Mm :=
  if (tg μ a0 = 5 ∨ tg μ a0 = 7) then
    (f_X2_init μ a0 p1).bind fun x1 =>
    some x1
  else none
def f_X6_init (μ : Mm) (a0 : Nat) (p1 : Int32) : Option Mm :=
  if tg μ a0 = 7 then
    (f_X4_init μ a0 p1).bind fun x1 =>
    some x1
  else none
def f_X9_init (μ : Mm) (a0 : Nat) (p1 : Int32) : Option Mm :=
  if tg μ a0 = 10 then
    (f_X1_init μ a0 p1).bind fun x1 =>
    some x1
  else none
def f_X3_newGuild (μ : Mm) (p0 : Int32) (p1 : Int32) : Option (Nat × Mm) :=
  if p0 = (1 : Int32) then
    (f_X4_init (nw μ 5 0) (hz μ) p1).bind fun x3 =>
    some ((hz μ), x3)
  else
    if p0 = (2 : Int32) then
      (f_X1_init (nw μ 2 0) (hz μ) p1).bind fun x6 =>
      some ((hz μ), x6)
    else
      if p0 = (3 : Int32) then
        (f_X0_init (nw μ 1 0) (hz μ) p1).bind fun x9 =>
        some ((hz μ), x9)
      else
        if p0 = (4 : Int32) then
          (f_X6_init (nw μ 7 0) (hz μ) p1).bind fun x12 =>
          some ((hz μ), x12)
        else
          if p0 = (5 : Int32) then
            (f_X9_init (nw μ 10 0) (hz μ) p1).bind fun x15 =>
            some ((hz μ), x15)
          else
            (f_X2_init (nw μ 3 0) (hz μ) p1).bind fun x17 =>
            some ((hz μ), x17)
def lp_X3_build_34 : Nat → Nat → Nat → Int32 → Mm → Option Mm
  | 0, _, _, _, _ => none
  | n+1, v0, v1, v2, μ =>
    (gI μ v0 4 2).bind fun x9 =>
    if x9 ≤ v2 then
      some μ
    else
      (gP μ v0 4 0).bind fun x11 =>
      (gP μ v1 6 0).bind fun x12 =>
      (aI μ x12 21 v2).bind fun x13 =>
      (gP μ v1 6 1).bind fun x14 =>
      (aI μ x14 21 v2).bind fun x15 =>
      (f_X3_newGuild μ x13 x15).bind fun x16 =>
      (qG x16.2 x11 v2 x16.1).bind fun x17 =>
      lp_X3_build_34 n v0 v1 (v2 + 1) x17
def f_X3_build (μ : Mm) (a0 : Nat) (p1 : Nat) : Option Mm :=
  if tg μ a0 = 4 then
    (gI μ p1 6 2).bind fun x1 =>
    (pI μ a0 4 2 x1).bind fun x2 =>
    (gI x2 p1 6 3).bind fun x3 =>
    (pI x2 a0 4 3 x3).bind fun x4 =>
    (gL x4 p1 6 4).bind fun x5 =>
    (pL x4 a0 4 11 x5).bind fun x6 =>
    (gI x6 p1 6 5).bind fun x7 =>
    (pI x6 a0 4 4 x7).bind fun x8 =>
    (lp_X3_build_34 7 a0 p1 (0 : Int32) x8).bind fun x18 =>
    (gP x18 a0 4 1).bind fun x19 =>
    (f_X8_open x18 x19 (0 : Int32) (0 : Int32)).bind fun x20 =>
    some x20
  else none
def f_X3_isEmpty (μ : Mm) (a0 : Nat) : Option Int32 :=
  if tg μ a0 = 4 then
    (gI μ a0 4 2).bind fun x1 =>
    if x1 = 0 then
      some (1 : Int32)
    else
      some (0 : Int32)
  else none
def f_X3_hasGuild (μ : Mm) (a0 : Nat) (p1 : Int32) : Option Int32 :=
  if tg μ a0 = 4 then
    if p1 < 0 then
      some (0 : Int32)
    else
      (gI μ a0 4 2).bind fun x2 =>
      if x2 ≤ p1 then
        some (0 : Int32)
      else
        some (1 : Int32)
  else none
def f_X3_hasTooth (μ : Mm) (a0 : Nat) (p1 : Int32) : Option Int32 :=
  if tg μ a0 = 4 then
    if p1 < 0 then
      some (0 : Int32)
    else
      (gI μ a0 4 3).bind fun x2 =>
      if x2 ≤ p1 then
        some (0 : Int32)
      else
        some (1 : Int32)
  else none
def f_X3_hasRentAt (μ : Mm) (a0 : Nat) (p1 : Int32) : Option Int32 :=
  if tg μ a0 = 4 then
    (f_X3_hasTooth μ a0 p1).bind fun x1 =>
    if x1 = 0 then
      some (0 : Int32)
    else
      (gL μ a0 4 11).bind fun x3 =>
      if (lg_cmp ((x3.toUInt64 >>> (p1.toInt64.toUInt64 &&& Int64.toUInt64 63)).toInt64 &&& (1 : Int64)) (0 : Int64)) = 0 then
        some (0 : Int32)
      else
        some (1 : Int32)
  else none
def f_X3_hasRoomFor (μ : Mm) (a0 : Nat) (p1 : Int32) : Option Int32 :=
  if tg μ a0 = 4 then
    (gP μ a0 4 1).bind fun x1 =>
    (gI μ x1 9 1).bind fun x2 =>
    if (60 : Int32) < (x2 + p1) then
      some (0 : Int32)
    else
      some (1 : Int32)
  else none
def f_X3_treadNow (μ : Mm) (a0 : Nat) (p1 : Int32) : Option Int32 :=
  if tg μ a0 = 4 then
    (f_X3_hasGuild μ a0 p1).bind fun x1 =>
    if x1 = 0 then
      some (0 : Int32)
    else
      (gP μ a0 4 0).bind fun x3 =>
      (aP μ x3 24 p1).bind fun x4 =>
      (gI μ a0 4 7).bind fun x5 =>
      (f_X2_treadOn μ x4 x5).bind fun x6 =>
      some x6
  else none
def f_J9_floorMod_7cf53 (μ : Mm) (p0 : Int32) (p1 : Int32) : Option Int32 :=
  if p1 = 0 then none else
  if 0 ≤ (p0 ^^^ p1) then
    some (p0 - p0 / p1 * p1)
  else
    if (p0 - p0 / p1 * p1) = 0 then
      some (p0 - p0 / p1 * p1)
    else
      some ((p0 - p0 / p1 * p1) + p1)
def f_X11_remainder (μ : Mm) (p0 : Int32) (p1 : Int32) : Option Int32 :=
  if (1 : Int32) ≤ p1 then
    (f_J9_floorMod_7cf53 μ p0 p1).bind fun x2 =>
    some x2
  else
    some (0 : Int32)
def f_X3_wrap (μ : Mm) (a0 : Nat) (p1 : Int32) : Option Int32 :=
  if tg μ a0 = 4 then
    (gI μ a0 4 3).bind fun x1 =>
    (f_X11_remainder μ p1 x1).bind fun x2 =>
    some x2
  else none
def f_X3_wayTo (μ : Mm) (a0 : Nat) (p1 : Int32) : Option Int32 :=
  if tg μ a0 = 4 then
    (gI μ a0 4 5).bind fun x1 =>
    (f_X3_wrap μ a0 (p1 - x1)).bind fun x2 =>
    some x2
  else none
def f_X3_byTeeth (μ : Mm) (a0 : Nat) (p1 : Int32) : Option Int32 :=
  if tg μ a0 = 4 then
    (gI μ a0 4 3).bind fun x1 =>
    if (1 : Int32) ≤ x1 then
      (gI μ a0 4 3).bind fun x3 =>
      if x3 = 0 then none else
      some (p1 / x3)
    else
      some (0 : Int32)
  else none
def f_X3_takeWalk (μ : Mm) (a0 : Nat) (p1 : Int32) : Option Mm :=
  if tg μ a0 = 4 then
    (gP μ a0 4 0).bind fun x1 =>
    (aP μ x1 24 p1).bind fun x2 =>
    (gI μ a0 4 7).bind fun x3 =>
    (f_X2_treadOn μ x2 x3).bind fun x4 =>
    (gI μ a0 4 5).bind fun x5 =>
    (gI μ a0 4 6).bind fun x6 =>
    (f_X3_byTeeth μ a0 (x5 + x4)).bind fun x7 =>
    (pI μ a0 4 6 (x6 + x7)).bind fun x8 =>
    (f_X3_wrap x8 a0 (x5 + x4)).bind fun x9 =>
    (pI x8 a0 4 5 x9).bind fun x10 =>
    (gI x10 a0 4 8).bind fun x11 =>
    (gI x10 a0 4 5).bind fun x12 =>
    (f_X3_hasRentAt x10 a0 x12).bind fun x13 =>
    ((
      if x13 = 0 then
        some (0 : Int32)
      else
        some (1 : Int32)
     : Option Int32)).bind fun x14 =>
    (pI x10 a0 4 8 (x11 + x14)).bind fun x16 =>
    (gI x16 a0 4 9).bind fun x17 =>
    (pI x16 a0 4 9 (x17 + (1 : Int32))).bind fun x18 =>
    (gI x18 a0 4 10).bind fun x19 =>
    (pI x18 a0 4 10 (x19 + x4)).bind fun x20 =>
    (gP x20 a0 4 0).bind fun x21 =>
    (aP x20 x21 24 p1).bind fun x22 =>
    (gG x20 x22 1).bind fun x23 =>
    (pG x20 x22 1 (x23 + (1 : Int32))).bind fun x24 =>
    some x24
  else none
def f_X3_takeStep (μ : Mm) (a0 : Nat) (p1 : Int32) : Option Mm :=
  if tg μ a0 = 4 then
    if p1 < (6 : Int32) then
      (f_X3_hasGuild μ a0 p1).bind fun x2 =>
      if x2 = 0 then
        some μ
      else
        (f_X3_takeWalk μ a0 p1).bind fun x4 =>
        some x4
    else
      (pI μ a0 4 7 (p1 - (6 : Int32))).bind fun x5 =>
      some x5
  else none
def f_X8_append (μ : Mm) (a0 : Nat) (p1 : Int32) : Option (Int32 × Mm) :=
  if tg μ a0 = 9 then
    (gI μ a0 9 1).bind fun x1 =>
    if x1 < 0 then
      some ((0 : Int32), μ)
    else
      (gI μ a0 9 1).bind fun x3 =>
      (gP μ a0 9 0).bind fun x4 =>
      if tg μ x4 = 21 then
      (zI μ x4).bind fun x5 =>
      if x3 < x5 then
        (gP μ a0 9 0).bind fun x7 =>
        (gI μ a0 9 1).bind fun x8 =>
        (qI μ x7 21 x8 p1).bind fun x9 =>
        (gI x9 a0 9 1).bind fun x10 =>
        (pI x9 a0 9 1 (x10 + (1 : Int32))).bind fun x11 =>
        some ((1 : Int32), x11)
      else
        some ((0 : Int32), μ)
      else none
  else none
def f_X3_addStep (μ : Mm) (a0 : Nat) (p1 : Int32) : Option Mm :=
  if tg μ a0 = 4 then
    (gP μ a0 4 1).bind fun x1 =>
    (f_X8_append μ x1 p1).bind fun x2 =>
    if x2.1 = 0 then
      some x2.2
    else
      (f_X3_takeStep x2.2 a0 p1).bind fun x4 =>
      some x4
  else none
def lp_X3_replay_32 : Nat → Nat → Int32 → Mm → Option Mm
  | 0, _, _, _ => none
  | n+1, v0, v1, μ =>
    (gI μ v0 4 2).bind fun x7 =>
    if x7 ≤ v1 then
      some μ
    else
      (gP μ v0 4 0).bind fun x9 =>
      (aP μ x9 24 v1).bind fun x10 =>
      (pG μ x10 1 (0 : Int32)).bind fun x11 =>
      lp_X3_replay_32 n v0 (v1 + 1) x11
def lp_X3_replay_58 : Nat → Nat → Int32 → Mm → Option Mm
  | 0, _, _, _ => none
  | n+1, v0, v1, μ =>
    (gP μ v0 4 1).bind fun x13 =>
    (gI μ x13 9 1).bind fun x14 =>
    if x14 ≤ v1 then
      some μ
    else
      (gP μ v0 4 1).bind fun x16 =>
      (gP μ x16 9 0).bind fun x17 =>
      (aI μ x17 21 v1).bind fun x18 =>
      (f_X3_takeStep μ v0 x18).bind fun x19 =>
      lp_X3_replay_58 n v0 (v1 + 1) x19
def f_X3_replay (μ : Mm) (a0 : Nat) : Option Mm :=
  if tg μ a0 = 4 then
    (pI μ a0 4 5 (0 : Int32)).bind fun x1 =>
    (pI x1 a0 4 6 (0 : Int32)).bind fun x2 =>
    (pI x2 a0 4 7 (0 : Int32)).bind fun x3 =>
    (pI x3 a0 4 8 (0 : Int32)).bind fun x4 =>
    (pI x4 a0 4 9 (0 : Int32)).bind fun x5 =>
    (pI x5 a0 4 10 (0 : Int32)).bind fun x6 =>
    (lp_X3_replay_32 BIG a0 (0 : Int32) x6).bind fun x12 =>
    (lp_X3_replay_58 BIG a0 (0 : Int32) x12).bind fun x20 =>
    some x20
  else none
def lp_X3_tellFeet_2 : Nat → Nat → Nat → Int32 → Mm → Option Mm
  | 0, _, _, _, _ => none
  | n+1, v0, v1, v2, μ =>
    (gI μ v0 4 2).bind fun x1 =>
    if x1 ≤ v2 then
      some μ
    else
      if tg μ v1 = 21 then
      (zI μ v1).bind fun x3 =>
      if x3 ≤ v2 then
        some μ
      else
        (gP μ v0 4 0).bind fun x5 =>
        (aP μ x5 24 v2).bind fun x6 =>
        (gG μ x6 0).bind fun x7 =>
        (qI μ v1 21 v2 x7).bind fun x8 =>
        lp_X3_tellFeet_2 n v0 v1 (v2 + 1) x8
      else none
def f_X3_tellFeet (μ : Mm) (a0 : Nat) (p1 : Nat) : Option Mm :=
  if tg μ a0 = 4 then
    (lp_X3_tellFeet_2 BIG a0 p1 (0 : Int32) μ).bind fun x9 =>
    some x9
  else none
def lp_X3_takeFeet_2 : Nat → Nat → Nat → Int32 → Mm → Option Mm
  | 0, _, _, _, _ => none
  | n+1, v0, v1, v2, μ =>
    (gI μ v0 4 2).bind fun x1 =>
    if x1 ≤ v2 then
      some μ
    else
      if tg μ v1 = 21 then
      (zI μ v1).bind fun x3 =>
      if x3 ≤ v2 then
        some μ
      else
        (gP μ v0 4 0).bind fun x5 =>
        (aP μ x5 24 v2).bind fun x6 =>
        (aI μ v1 21 v2).bind fun x7 =>
        (pG μ x6 0 x7).bind fun x8 =>
        lp_X3_takeFeet_2 n v0 v1 (v2 + 1) x8
      else none
def f_X3_takeFeet (μ : Mm) (a0 : Nat) (p1 : Nat) : Option Mm :=
  if tg μ a0 = 4 then
    (lp_X3_takeFeet_2 BIG a0 p1 (0 : Int32) μ).bind fun x9 =>
    some x9
  else none
def f_X4_kind (μ : Mm) (a0 : Nat) : Option Int32 :=
  if (tg μ a0 = 5 ∨ tg μ a0 = 7) then
    some (1 : Int32)
  else none
def f_X6_kind (μ : Mm) (a0 : Nat) : Option Int32 :=
  if tg μ a0 = 7 then
    some (4 : Int32)
  else none
def f_X9_kind (μ : Mm) (a0 : Nat) : Option Int32 :=
  if tg μ a0 = 10 then
    some (5 : Int32)
  else none
def fv_2_kind (μ : Mm) (a0 : Nat) : Option Int32 :=
  if tg μ a0 = 1 then f_X0_kind μ a0 else
  if tg μ a0 = 2 then f_X1_kind μ a0 else
  if tg μ a0 = 3 then f_X2_kind μ a0 else
  if tg μ a0 = 5 then f_X4_kind μ a0 else
  if tg μ a0 = 7 then f_X6_kind μ a0 else
  if tg μ a0 = 10 then f_X9_kind μ a0 else none
def f_X3_detail (μ : Mm) (a0 : Nat) (p1 : Int32) (p2 : Int32) : Option Int32 :=
  if tg μ a0 = 4 then
    (f_X3_hasGuild μ a0 p1).bind fun x1 =>
    if x1 = 0 then
      some (0 : Int32)
    else
      if p2 = (0 : Int32) then
        (gP μ a0 4 0).bind fun x4 =>
        (aP μ x4 24 p1).bind fun x5 =>
        (fv_2_kind μ x5).bind fun x6 =>
        some x6
      else
        if p2 = (1 : Int32) then
          (gP μ a0 4 0).bind fun x8 =>
          (aP μ x8 24 p1).bind fun x9 =>
          (gG μ x9 0).bind fun x10 =>
          some x10
        else
          if p2 = (2 : Int32) then
            (f_X3_treadNow μ a0 p1).bind fun x12 =>
            some x12
          else
            if p2 = (3 : Int32) then
              (gP μ a0 4 0).bind fun x14 =>
              (aP μ x14 24 p1).bind fun x15 =>
              (fv_2_bareTread μ x15).bind fun x16 =>
              some x16
            else
              (gP μ a0 4 0).bind fun x17 =>
              (aP μ x17 24 p1).bind fun x18 =>
              (gG μ x18 1).bind fun x19 =>
              some x19
  else none
def lp_X3_countHeavy_4 : Nat → Nat → Int32 → Int32 → Mm → Option Int32
  | 0, _, _, _, _ => none
  | n+1, v0, v1, v2, μ =>
    (gI μ v0 4 2).bind fun x1 =>
    if x1 ≤ v2 then
      some v1
    else
      (gP μ v0 4 0).bind fun x3 =>
      (aP μ x3 24 v2).bind fun x4 =>
      (ins μ x4 [5, 7]).bind fun x5 =>
      if x5 = 0 then
        lp_X3_countHeavy_4 n v0 (v1 + (0 : Int32)) (v2 + 1) μ
      else
        lp_X3_countHeavy_4 n v0 (v1 + (1 : Int32)) (v2 + 1) μ
def f_X3_countHeavy (μ : Mm) (a0 : Nat) : Option Int32 :=
  if tg μ a0 = 4 then
    (lp_X3_countHeavy_4 BIG a0 (0 : Int32) (0 : Int32) μ).bind fun x7 =>
    some x7
  else none
def lp_X3_countChildren_4 : Nat → Nat → Int32 → Int32 → Mm → Option Int32
  | 0, _, _, _, _ => none
  | n+1, v0, v1, v2, μ =>
    (gI μ v0 4 2).bind fun x1 =>
    if x1 ≤ v2 then
      some v1
    else
      (gP μ v0 4 0).bind fun x3 =>
      (aP μ x3 24 v2).bind fun x4 =>
      (ins μ x4 [2, 10]).bind fun x5 =>
      if x5 = 0 then
        lp_X3_countChildren_4 n v0 (v1 + (0 : Int32)) (v2 + 1) μ
      else
        lp_X3_countChildren_4 n v0 (v1 + (1 : Int32)) (v2 + 1) μ
def f_X3_countChildren (μ : Mm) (a0 : Nat) : Option Int32 :=
  if tg μ a0 = 4 then
    (lp_X3_countChildren_4 BIG a0 (0 : Int32) (0 : Int32) μ).bind fun x7 =>
    some x7
  else none
def lp_X3_countStill_4 : Nat → Nat → Int32 → Int32 → Mm → Option Int32
  | 0, _, _, _, _ => none
  | n+1, v0, v1, v2, μ =>
    (gI μ v0 4 2).bind fun x1 =>
    if x1 ≤ v2 then
      some v1
    else
      (f_X3_treadNow μ v0 v2).bind fun x3 =>
      if x3 = 0 then
        lp_X3_countStill_4 n v0 (v1 + (1 : Int32)) (v2 + 1) μ
      else
        lp_X3_countStill_4 n v0 (v1 + (0 : Int32)) (v2 + 1) μ
def f_X3_countStill (μ : Mm) (a0 : Nat) : Option Int32 :=
  if tg μ a0 = 4 then
    (lp_X3_countStill_4 BIG a0 (0 : Int32) (0 : Int32) μ).bind fun x5 =>
    some x5
  else none
def lp_X3_walksToNoon_2 : Nat → Nat → Int32 → Int32 → Mm → Option (Nat × Int32)
  | 0, _, _, _, _ => none
  | n+1, v0, v1, v2, μ =>
    (gI μ v0 4 3).bind fun x1 =>
    if x1 < v2 then
      some (1, (0 : Int32))
    else
      (gI μ v0 4 5).bind fun x3 =>
      (f_X3_wrap μ v0 (x3 + (v2 * v1))).bind fun x4 =>
      if x4 = 0 then
        some (0, v2)
      else
        lp_X3_walksToNoon_2 n v0 v1 (v2 + 1) μ
def f_X3_walksToNoon (μ : Mm) (a0 : Nat) (p1 : Int32) : Option Int32 :=
  if tg μ a0 = 4 then
    (lp_X3_walksToNoon_2 BIG a0 p1 (1 : Int32) μ).bind fun x6 =>
    if x6.1 = 0 then
      some x6.2
    else
      some (-9 : Int32)
  else none
def lp_X11_greatestDivisor_9 : Nat → Int64 → Int64 → Int32 → Mm → Option Int64
  | 0, _, _, _, _ => none
  | n+1, v4, v6, v8, μ =>
    if (100 : Int32) ≤ v8 then
      some v4
    else
      if (lg_cmp v6 (0 : Int64)) = 0 then
        some v4
      else
        if v6 = 0 then none else
        lp_X11_greatestDivisor_9 n v6 (v4 - v4 / v6 * v6) (v8 + 1) μ
def f_X11_greatestDivisor (μ : Mm) (p0 : Int64) (p2 : Int64) : Option Int64 :=
  (lp_X11_greatestDivisor_9 BIG p0 p2 (0 : Int32) μ).bind fun x4 =>
  some x4
def f_X3_walksToReturn (μ : Mm) (a0 : Nat) (p1 : Int32) : Option Int32 :=
  if tg μ a0 = 4 then
    (gI μ a0 4 3).bind fun x1 =>
    (f_X11_greatestDivisor μ x1.toInt64 p1.toInt64).bind fun x2 =>
    if (1 : Int32) ≤ x2.toInt32 then
      (gI μ a0 4 3).bind fun x4 =>
      if x2.toInt32 = 0 then none else
      some (if (1 : Int32) < (x4 / x2.toInt32) then (x4 / x2.toInt32) else (1 : Int32))
    else
      some (1 : Int32)
  else none
def lp_X3_stride_9 : Nat → Nat → Int32 → Int64 → Int32 → Mm → Option Int64
  | 0, _, _, _, _, _ => none
  | n+1, v0, v1, v2, v4, μ =>
    (gI μ v0 4 2).bind fun x2 =>
    if x2 ≤ v4 then
      some v2
    else
      if v4 = v1 then
        lp_X3_stride_9 n v0 v1 v2 (v4 + 1) μ
      else
        (f_X3_treadNow μ v0 v4).bind fun x5 =>
        (f_X11_greatestDivisor μ v2 x5.toInt64).bind fun x6 =>
        lp_X3_stride_9 n v0 v1 x6 (v4 + 1) μ
def f_X3_stride (μ : Mm) (a0 : Nat) (p1 : Int32) : Option Int32 :=
  if tg μ a0 = 4 then
    (gI μ a0 4 3).bind fun x1 =>
    (lp_X3_stride_9 BIG a0 p1 x1.toInt64 (0 : Int32) μ).bind fun x7 =>
    some x7.toInt32
  else none
def fv_4_bareTread (μ : Mm) (a0 : Nat) : Option Int32 :=
  if tg μ a0 = 5 then f_X4_bareTread μ a0 else
  if tg μ a0 = 7 then f_X6_bareTread μ a0 else none
def f_X4_gain (μ : Mm) (a0 : Nat) : Option Int32 :=
  if (tg μ a0 = 5 ∨ tg μ a0 = 7) then
    (fv_4_bareTread μ a0).bind fun x1 =>
    (gG μ a0 0).bind fun x2 =>
    some (x1 - x2)
  else none
def f_X5_init (μ : Mm) (a0 : Nat) : Option Mm :=
  if tg μ a0 = 6 then
    (nA μ 21 6 (6 : Int32)).bind fun x1 =>
    (pP x1.2 a0 6 0 x1.1).bind fun x2 =>
    (nA x2 21 6 (6 : Int32)).bind fun x3 =>
    (pP x3.2 a0 6 1 x3.1).bind fun x4 =>
    some x4
  else none
def f_X8_has (μ : Mm) (a0 : Nat) (p1 : Int32) : Option Int32 :=
  if tg μ a0 = 9 then
    if p1 < 0 then
      some (0 : Int32)
    else
      (gI μ a0 9 1).bind fun x2 =>
      if x2 ≤ p1 then
        some (0 : Int32)
      else
        some (1 : Int32)
  else none
def lp_X5_reachesItem_0 : Nat → Nat → Nat → Mm → Option Mm
  | 0, _, _, _ => none
  | n+1, v0, v1, μ =>
    (gI μ v0 6 6).bind fun x1 =>
    (f_X8_has μ v1 x1).bind fun x2 =>
    if x2 = 0 then
      some μ
    else
      (gP μ v1 9 0).bind fun x4 =>
      (gI μ v0 6 6).bind fun x5 =>
      (aI μ x4 21 x5).bind fun x6 =>
      if x6 = (32 : Int32) then
        (gI μ v0 6 6).bind fun x8 =>
        (pI μ v0 6 6 (x8 + (1 : Int32))).bind fun x9 =>
        lp_X5_reachesItem_0 n v0 v1 x9
      else
        some μ
def f_X5_reachesItem (μ : Mm) (a0 : Nat) (p1 : Nat) : Option (Int32 × Mm) :=
  if tg μ a0 = 6 then
    (lp_X5_reachesItem_0 BIG a0 p1 μ).bind fun x10 =>
    (gI x10 a0 6 6).bind fun x11 =>
    (f_X8_has x10 p1 x11).bind fun x12 =>
    (zb x12).bind fun _ =>
    some (x12, x10)
  else none
def f_X5_readFigure (μ : Mm) (a0 : Nat) (p1 : Nat) : Option (Int32 × Mm) :=
  if tg μ a0 = 6 then
    (gI μ a0 6 6).bind fun x1 =>
    (f_X8_has μ p1 x1).bind fun x2 =>
    if x2 = 0 then
      (gI μ p1 9 1).bind fun x15 =>
      (pI μ a0 6 7 x15).bind fun x16 =>
      some ((-9 : Int32), x16)
    else
      (gP μ p1 9 0).bind fun x4 =>
      (gI μ a0 6 6).bind fun x5 =>
      (aI μ x4 21 x5).bind fun x6 =>
      if x6 < (48 : Int32) then
        (gI μ a0 6 6).bind fun x8 =>
        (pI μ a0 6 7 x8).bind fun x9 =>
        some ((-9 : Int32), x9)
      else
        if x6 ≤ (57 : Int32) then
          (gI μ a0 6 6).bind fun x11 =>
          (pI μ a0 6 6 (x11 + (1 : Int32))).bind fun x12 =>
          some ((x6 - (48 : Int32)), x12)
        else
          (gI μ a0 6 6).bind fun x13 =>
          (pI μ a0 6 7 x13).bind fun x14 =>
          some ((-9 : Int32), x14)
  else none
def f_X5_readTwoFigures (μ : Mm) (a0 : Nat) (p1 : Nat) (p2 : Int32) (p3 : Int32) : Option (Int32 × Mm) :=
  if tg μ a0 = 6 then
    (gI μ a0 6 6).bind fun x1 =>
    (f_X5_readFigure μ a0 p1).bind fun x2 =>
    (gI x2.2 a0 6 7).bind fun x3 =>
    ((
      if x3 = (-9 : Int32) then
        (f_X5_readFigure x2.2 a0 p1).bind fun x6 =>
        some (x6.1, x6.2)
      else
        some ((0 : Int32), x2.2)
     : Option (Int32 × Mm))).bind fun x4 =>
    (gI x4.2 a0 6 7).bind fun x7 =>
    if x7 = (-9 : Int32) then
      if (((10 : Int32) * x2.1) + x4.1) < p2 then
        (pI x4.2 a0 6 7 x1).bind fun x10 =>
        some ((((10 : Int32) * x2.1) + x4.1), x10)
      else
        if (((10 : Int32) * x2.1) + x4.1) ≤ p3 then
          some ((((10 : Int32) * x2.1) + x4.1), x4.2)
        else
          (pI x4.2 a0 6 7 x1).bind fun x12 =>
          some ((((10 : Int32) * x2.1) + x4.1), x12)
    else
      some ((((10 : Int32) * x2.1) + x4.1), x4.2)
  else none
def f_X5_readDial (μ : Mm) (a0 : Nat) (p1 : Nat) : Option Mm :=
  if tg μ a0 = 6 then
    (f_X5_reachesItem μ a0 p1).bind fun x1 =>
    if x1.1 = 0 then
      (gI x1.2 p1 9 1).bind fun x13 =>
      (pI x1.2 a0 6 7 x13).bind fun x14 =>
      some x14
    else
      (gP x1.2 p1 9 0).bind fun x3 =>
      (gI x1.2 a0 6 6).bind fun x4 =>
      (aI x1.2 x3 21 x4).bind fun x5 =>
      if x5 = (100 : Int32) then
        (gI x1.2 a0 6 6).bind fun x7 =>
        (pI x1.2 a0 6 6 (x7 + (1 : Int32))).bind fun x8 =>
        (f_X5_readTwoFigures x8 a0 p1 (12 : Int32) (60 : Int32)).bind fun x9 =>
        (pI x9.2 a0 6 3 x9.1).bind fun x10 =>
        some x10
      else
        (gI x1.2 a0 6 6).bind fun x11 =>
        (pI x1.2 a0 6 7 x11).bind fun x12 =>
        some x12
  else none
def f_X5_kindOf (μ : Mm) (p0 : Int32) : Option Int32 :=
  if p0 = (99 : Int32) then
    some (2 : Int32)
  else
    if p0 = (103 : Int32) then
      some (0 : Int32)
    else
      if p0 = (104 : Int32) then
        some (1 : Int32)
      else
        if p0 = (107 : Int32) then
          some (3 : Int32)
        else
          if p0 = (114 : Int32) then
            some (4 : Int32)
          else
            if p0 = (116 : Int32) then
              some (5 : Int32)
            else
              some (-9 : Int32)
def f_X5_readGuild (μ : Mm) (a0 : Nat) (p1 : Nat) : Option Mm :=
  if tg μ a0 = 6 then
    (gI μ a0 6 6).bind fun x1 =>
    (f_X8_has μ p1 x1).bind fun x2 =>
    ((
      if x2 = 0 then
        some (-9 : Int32)
      else
        (gP μ p1 9 0).bind fun x5 =>
        (gI μ a0 6 6).bind fun x6 =>
        (aI μ x5 21 x6).bind fun x7 =>
        (f_X5_kindOf μ x7).bind fun x8 =>
        some x8
     : Option Int32)).bind fun x3 =>
    if x3 = (-9 : Int32) then
      (gI μ a0 6 6).bind fun x10 =>
      (pI μ a0 6 7 x10).bind fun x11 =>
      some x11
    else
      (gI μ a0 6 2).bind fun x12 =>
      if (6 : Int32) ≤ x12 then
        (gI μ a0 6 6).bind fun x14 =>
        (pI μ a0 6 7 x14).bind fun x15 =>
        some x15
      else
        (gI μ a0 6 5).bind fun x16 =>
        if x16 ≤ 0 then
          (gI μ a0 6 6).bind fun x18 =>
          (pI μ a0 6 6 (x18 + (1 : Int32))).bind fun x19 =>
          (f_X5_readFigure x19 a0 p1).bind fun x20 =>
          ((
            if x20.1 = 0 then
              (gI x20.2 a0 6 6).bind fun x23 =>
              (pI x20.2 a0 6 7 (x23 - (1 : Int32))).bind fun x24 =>
              some x24
            else
              some x20.2
           : Option Mm)).bind fun x21 =>
          (gI x21 a0 6 7).bind fun x25 =>
          if x25 = (-9 : Int32) then
            (gP x21 a0 6 0).bind fun x27 =>
            (gI x21 a0 6 2).bind fun x28 =>
            (qI x21 x27 21 x28 x3).bind fun x29 =>
            (gP x29 a0 6 1).bind fun x30 =>
            (gI x29 a0 6 2).bind fun x31 =>
            (qI x29 x30 21 x31 x20.1).bind fun x32 =>
            (gI x32 a0 6 2).bind fun x33 =>
            (pI x32 a0 6 2 (x33 + (1 : Int32))).bind fun x34 =>
            some x34
          else
            some x21
        else
          (gI μ a0 6 6).bind fun x35 =>
          (pI μ a0 6 7 x35).bind fun x36 =>
          some x36
  else none
def f_X5_readRent (μ : Mm) (a0 : Nat) (p1 : Nat) : Option Mm :=
  if tg μ a0 = 6 then
    (gI μ a0 6 2).bind fun x1 =>
    if x1 = 0 then
      (gI μ a0 6 6).bind fun x3 =>
      (pI μ a0 6 7 x3).bind fun x4 =>
      some x4
    else
      (gI μ a0 6 5).bind fun x5 =>
      if x5 < (6 : Int32) then
        (gI μ a0 6 6).bind fun x7 =>
        (pI μ a0 6 6 (x7 + (1 : Int32))).bind fun x8 =>
        (gI x8 a0 6 6).bind fun x9 =>
        (gI x8 a0 6 3).bind fun x10 =>
        (f_X5_readTwoFigures x8 a0 p1 (1 : Int32) (x10 - (1 : Int32))).bind fun x11 =>
        (gI x11.2 a0 6 7).bind fun x12 =>
        if x12 = (-9 : Int32) then
          (gL x11.2 a0 6 4).bind fun x14 =>
          if (lg_cmp ((x14.toUInt64 >>> (x11.1.toInt64.toUInt64 &&& Int64.toUInt64 63)).toInt64 &&& (1 : Int64)) (0 : Int64)) = 0 then
            (gL x11.2 a0 6 4).bind fun x16 =>
            (pL x11.2 a0 6 4 (x16 ||| ((1 : Int64) <<< (x11.1.toInt64 &&& 63)))).bind fun x17 =>
            (gI x17 a0 6 5).bind fun x18 =>
            (pI x17 a0 6 5 (x18 + (1 : Int32))).bind fun x19 =>
            some x19
          else
            (pI x11.2 a0 6 7 x9).bind fun x20 =>
            some x20
        else
          some x11.2
      else
        (gI μ a0 6 6).bind fun x21 =>
        (pI μ a0 6 7 x21).bind fun x22 =>
        some x22
  else none
def f_X5_readItem (μ : Mm) (a0 : Nat) (p1 : Nat) : Option Mm :=
  if tg μ a0 = 6 then
    (gI μ a0 6 6).bind fun x1 =>
    (f_X8_has μ p1 x1).bind fun x2 =>
    if x2 = 0 then
      (gI μ p1 9 1).bind fun x10 =>
      (pI μ a0 6 7 x10).bind fun x11 =>
      some x11
    else
      (gP μ p1 9 0).bind fun x4 =>
      (gI μ a0 6 6).bind fun x5 =>
      (aI μ x4 21 x5).bind fun x6 =>
      if x6 = (101 : Int32) then
        (f_X5_readRent μ a0 p1).bind fun x9 =>
        some x9
      else
        (f_X5_readGuild μ a0 p1).bind fun x8 =>
        some x8
  else none
def lp_X5_read_38 : Nat → Nat → Nat → Int32 → Mm → Option Mm
  | 0, _, _, _, _ => none
  | n+1, v0, v1, v2, μ =>
    if (60 : Int32) ≤ v2 then
      some μ
    else
      (gI μ v0 6 7).bind fun x9 =>
      if x9 = (-9 : Int32) then
        (f_X5_reachesItem μ v0 v1).bind fun x11 =>
        if x11.1 = 0 then
          some x11.2
        else
          (f_X5_readItem x11.2 v0 v1).bind fun x13 =>
          lp_X5_read_38 n v0 v1 (v2 + 1) x13
      else
        some μ
def f_X5_read (μ : Mm) (a0 : Nat) (p1 : Nat) : Option (Int32 × Mm) :=
  if tg μ a0 = 6 then
    (pI μ a0 6 2 (0 : Int32)).bind fun x1 =>
    (pI x1 a0 6 3 (0 : Int32)).bind fun x2 =>
    (pL x2 a0 6 4 (0 : Int64)).bind fun x3 =>
    (pI x3 a0 6 5 (0 : Int32)).bind fun x4 =>
    (pI x4 a0 6 6 (0 : Int32)).bind fun x5 =>
    (pI x5 a0 6 7 (-9 : Int32)).bind fun x6 =>
    (f_X5_readDial x6 a0 p1).bind fun x7 =>
    (lp_X5_read_38 BIG a0 p1 (0 : Int32) x7).bind fun x14 =>
    (gI x14 a0 6 7).bind fun x15 =>
    if x15 = (-9 : Int32) then
      (gI x14 a0 6 2).bind fun x18 =>
      if x18 = 0 then
        (gI x14 p1 9 1).bind fun x21 =>
        (pI x14 a0 6 7 x21).bind fun x22 =>
        (gI x22 a0 6 7).bind fun x23 =>
        some (x23, x22)
      else
        (gI x14 a0 6 7).bind fun x20 =>
        some (x20, x14)
    else
      (gI x14 a0 6 7).bind fun x17 =>
      some (x17, x14)
  else none
def f_X7_init (μ : Mm) (a0 : Nat) : Option Mm :=
  if tg μ a0 = 8 then
    (nA μ 21 64 (64 : Int32)).bind fun x1 =>
    (pP x1.2 a0 8 0 x1.1).bind fun x2 =>
    (nA x2 21 64 (64 : Int32)).bind fun x3 =>
    (pP x3.2 a0 8 1 x3.1).bind fun x4 =>
    (nA x4 23 64 (64 : Int32)).bind fun x5 =>
    (pP x5.2 a0 8 2 x5.1).bind fun x6 =>
    (nA x6 21 64 (64 : Int32)).bind fun x7 =>
    (pP x7.2 a0 8 3 x7.1).bind fun x8 =>
    (pI x8 a0 8 4 (0 : Int32)).bind fun x9 =>
    (pI x9 a0 8 5 (0 : Int32)).bind fun x10 =>
    (pI x10 a0 8 6 (-1 : Int32)).bind fun x11 =>
    (pI x11 a0 8 7 (0 : Int32)).bind fun x12 =>
    some x12
  else none
def lp_X7_look_49 : Nat → Nat → Nat → Int32 → Int32 → Int32 → Mm → Option Mm
  | 0, _, _, _, _, _, _ => none
  | n+1, v0, v1, v2, v3, v4, μ =>
    if v3 ≤ v4 then
      some μ
    else
      (gP μ v0 8 0).bind fun x10 =>
      (gP μ v0 8 0).bind fun x11 =>
      (aI μ x11 21 v4).bind fun x12 =>
      (f_X3_treadNow μ v1 v2).bind fun x13 =>
      (f_X3_wrap μ v1 (x12 + x13)).bind fun x14 =>
      (qI μ x10 21 (v4 ||| v3) x14).bind fun x15 =>
      lp_X7_look_49 n v0 v1 v2 v3 (v4 + 1) x15
def lp_X7_look_34 : Nat → Nat → Nat → Int32 → Mm → Option Mm
  | 0, _, _, _, _ => none
  | n+1, v0, v1, v2, μ =>
    (gI μ v0 8 4).bind fun x7 =>
    if x7 ≤ v2 then
      some μ
    else
      (lp_X7_look_49 BIG v0 v1 v2 ((1 : Int32) <<< (v2 &&& 31)) (0 : Int32) μ).bind fun x16 =>
      lp_X7_look_34 n v0 v1 (v2 + 1) x16
def lp_X7_look_95 : Nat → Nat → Nat → Int32 → Mm → Option Mm
  | 0, _, _, _, _ => none
  | n+1, v0, v1, v2, μ =>
    (gI μ v0 8 5).bind fun x18 =>
    if x18 < v2 then
      some μ
    else
      (gP μ v0 8 1).bind fun x20 =>
      (gI μ v1 4 5).bind fun x21 =>
      (gP μ v0 8 0).bind fun x22 =>
      (aI μ x22 21 v2).bind fun x23 =>
      (f_X3_wrap μ v1 (x21 + x23)).bind fun x24 =>
      (qI μ x20 21 v2 x24).bind fun x25 =>
      (gP x25 v0 8 2).bind fun x26 =>
      (gP x25 v0 8 1).bind fun x27 =>
      (aI x25 x27 21 v2).bind fun x28 =>
      (f_X3_hasRentAt x25 v1 x28).bind fun x29 =>
      (qZ x25 x26 23 v2 x29).bind fun x30 =>
      lp_X7_look_95 n v0 v1 (v2 + 1) x30
def f_X7_look (μ : Mm) (a0 : Nat) (p1 : Nat) : Option Mm :=
  if tg μ a0 = 8 then
    (gI μ p1 4 2).bind fun x1 =>
    (pI μ a0 8 4 (if (6 : Int32) < x1 then (6 : Int32) else x1)).bind fun x2 =>
    (gI x2 a0 8 4).bind fun x3 =>
    (pI x2 a0 8 5 (((1 : Int32) <<< (x3 &&& 31)) - (1 : Int32))).bind fun x4 =>
    (gP x4 a0 8 0).bind fun x5 =>
    (qI x4 x5 21 (0 : Int32) (0 : Int32)).bind fun x6 =>
    (lp_X7_look_34 BIG a0 p1 (0 : Int32) x6).bind fun x17 =>
    (lp_X7_look_95 BIG a0 p1 (0 : Int32) x17).bind fun x31 =>
    some x31
  else none
def f_X7_isIn (μ : Mm) (p0 : Int32) (p1 : Int32) : Option Int32 :=
  if ((p0 >>> (p1 &&& 31)) &&& (1 : Int32)) = (1 : Int32) then
    some (1 : Int32)
  else
    some (0 : Int32)
def f_X7_wrongsBy (μ : Mm) (a0 : Nat) (p1 : Int32) (p2 : Int32) : Option Int32 :=
  if tg μ a0 = 8 then
    (gP μ a0 8 3).bind fun x1 =>
    (aI μ x1 21 (p1 ||| ((1 : Int32) <<< (p2 &&& 31)))).bind fun x2 =>
    (gP μ a0 8 2).bind fun x3 =>
    (aI μ x3 23 (p1 ||| ((1 : Int32) <<< (p2 &&& 31)))).bind fun x4 =>
    ((
      if x4 = 0 then
        some x2
      else
        some (x2 + 1)
     : Option Int32)).bind fun x5 =>
    (gI μ a0 8 6).bind fun x7 =>
    if p2 = x7 then
      (gP μ a0 8 1).bind fun x9 =>
      (aI μ x9 21 (p1 ||| ((1 : Int32) <<< (p2 &&& 31)))).bind fun x10 =>
      (gI μ a0 8 7).bind fun x11 =>
      if x10 = x11 then
        some x5
      else
        some (x5 + 1)
    else
      some x5
  else none
def lp_X7_weigh_38 : Nat → Nat → Int32 → Int32 → Int32 → Mm → Option Int32
  | 0, _, _, _, _, _ => none
  | n+1, v0, v3, v4, v5, μ =>
    (gI μ v0 8 4).bind fun x8 =>
    if x8 ≤ v5 then
      some v4
    else
      (f_X7_isIn μ v3 v5).bind fun x10 =>
      if x10 = 0 then
        (f_X7_wrongsBy μ v0 v3 v5).bind fun x12 =>
        lp_X7_weigh_38 n v0 v3 (if x12 < v4 then x12 else v4) (v5 + 1) μ
      else
        lp_X7_weigh_38 n v0 v3 v4 (v5 + 1) μ
def lp_X7_weigh_27 : Nat → Nat → Int32 → Mm → Option Mm
  | 0, _, _, _ => none
  | n+1, v0, v3, μ =>
    if v3 < 0 then
      some μ
    else
      (lp_X7_weigh_38 BIG v0 v3 (64 : Int32) (0 : Int32) μ).bind fun x13 =>
      (gP μ v0 8 3).bind fun x14 =>
      (qI μ x14 21 v3 x13).bind fun x15 =>
      lp_X7_weigh_27 n v0 (v3 + (-1)) x15
def f_X7_weigh (μ : Mm) (a0 : Nat) (p1 : Int32) (p2 : Int32) : Option Mm :=
  if tg μ a0 = 8 then
    (pI μ a0 8 6 p1).bind fun x1 =>
    (pI x1 a0 8 7 p2).bind fun x2 =>
    (gP x2 a0 8 3).bind fun x3 =>
    (gI x2 a0 8 5).bind fun x4 =>
    (qI x2 x3 21 x4 (0 : Int32)).bind fun x5 =>
    (gI x5 a0 8 5).bind fun x6 =>
    (lp_X7_weigh_27 BIG a0 (x6 - (1 : Int32)) x5).bind fun x16 =>
    some x16
  else none
def f_X7_fewestWrongs (μ : Mm) (a0 : Nat) : Option Int32 :=
  if tg μ a0 = 8 then
    (gP μ a0 8 3).bind fun x1 =>
    (aI μ x1 21 (0 : Int32)).bind fun x2 =>
    some x2
  else none
def lp_X7_firstBehind_2 : Nat → Nat → Int32 → Int32 → Mm → Option (Nat × Int32)
  | 0, _, _, _, _ => none
  | n+1, v0, v1, v2, μ =>
    (gI μ v0 8 4).bind fun x1 =>
    if x1 ≤ v2 then
      some (1, (0 : Int32))
    else
      (f_X7_isIn μ v1 v2).bind fun x3 =>
      if x3 = 0 then
        (f_X7_wrongsBy μ v0 v1 v2).bind fun x5 =>
        (gP μ v0 8 3).bind fun x6 =>
        (aI μ x6 21 v1).bind fun x7 =>
        if x5 = x7 then
          some (0, v2)
        else
          lp_X7_firstBehind_2 n v0 v1 (v2 + 1) μ
      else
        lp_X7_firstBehind_2 n v0 v1 (v2 + 1) μ
def f_X7_firstBehind (μ : Mm) (a0 : Nat) (p1 : Int32) : Option Int32 :=
  if tg μ a0 = 8 then
    (lp_X7_firstBehind_2 BIG a0 p1 (0 : Int32) μ).bind fun x9 =>
    if x9.1 = 0 then
      some x9.2
    else
      some (0 : Int32)
  else none
def f_X8_replace (μ : Mm) (a0 : Nat) (p1 : Int32) (p2 : Int32) : Option (Int32 × Mm) :=
  if tg μ a0 = 9 then
    (f_X8_has μ a0 p1).bind fun x1 =>
    if x1 = 0 then
      some ((0 : Int32), μ)
    else
      (gP μ a0 9 0).bind fun x3 =>
      (aI μ x3 21 p1).bind fun x4 =>
      (gP μ a0 9 0).bind fun x5 =>
      (qI μ x5 21 p1 p2).bind fun x6 =>
      some (x4, x6)
  else none
def lp_X7_tellFirstOrder_13 : Nat → Nat → Nat → Int32 → Int32 → Mm → Option Mm
  | 0, _, _, _, _, _ => none
  | n+1, v0, v1, v2, v3, μ =>
    (gI μ v0 8 4).bind fun x3 =>
    if x3 ≤ v3 then
      some μ
    else
      (f_X7_firstBehind μ v0 v2).bind fun x5 =>
      (f_X8_replace μ v1 v3 x5).bind fun x6 =>
      lp_X7_tellFirstOrder_13 n v0 v1 (v2 ||| ((1 : Int32) <<< (x5 &&& 31))) (v3 + 1) x6.2
def f_X7_tellFirstOrder (μ : Mm) (a0 : Nat) (p1 : Nat) : Option Mm :=
  if tg μ a0 = 8 then
    (gI μ a0 8 4).bind fun x1 =>
    (f_X8_open μ p1 x1 (0 : Int32)).bind fun x2 =>
    (lp_X7_tellFirstOrder_13 BIG a0 p1 (0 : Int32) (0 : Int32) x2).bind fun x7 =>
    some x7
  else none
def lp_X7_countQuiet_21 : Nat → Nat → Int32 → Int32 → Int32 → Mm → Option Int32
  | 0, _, _, _, _, _ => none
  | n+1, v0, v1, v2, v3, μ =>
    (gI μ v0 8 4).bind fun x5 =>
    if x5 ≤ v3 then
      some v2
    else
      (f_X7_isIn μ v1 v3).bind fun x7 =>
      if x7 = 0 then
        lp_X7_countQuiet_21 n v0 v1 v2 (v3 + 1) μ
      else
        (gP μ v0 8 3).bind fun x9 =>
        (aI μ x9 21 (v1 ^^^ ((1 : Int32) <<< (v3 &&& 31)))).bind fun x10 =>
        lp_X7_countQuiet_21 n v0 v1 (v2 + x10) (v3 + 1) μ
def lp_X7_countQuiet_9 : Nat → Nat → Int32 → Mm → Option Mm
  | 0, _, _, _ => none
  | n+1, v0, v1, μ =>
    (gI μ v0 8 5).bind fun x3 =>
    if x3 < v1 then
      some μ
    else
      (lp_X7_countQuiet_21 BIG v0 v1 (0 : Int32) (0 : Int32) μ).bind fun x11 =>
      (gP μ v0 8 3).bind fun x12 =>
      (gP μ v0 8 2).bind fun x13 =>
      (aI μ x13 23 v1).bind fun x14 =>
      if x14 = 0 then
        (qI μ x12 21 v1 x11).bind fun x16 =>
        lp_X7_countQuiet_9 n v0 (v1 + 1) x16
      else
        (qI μ x12 21 v1 (0 : Int32)).bind fun x17 =>
        lp_X7_countQuiet_9 n v0 (v1 + 1) x17
def f_X7_countQuiet (μ : Mm) (a0 : Nat) : Option (Int32 × Mm) :=
  if tg μ a0 = 8 then
    (gP μ a0 8 3).bind fun x1 =>
    (qI μ x1 21 (0 : Int32) (1 : Int32)).bind fun x2 =>
    (lp_X7_countQuiet_9 BIG a0 (1 : Int32) x2).bind fun x18 =>
    (gP x18 a0 8 3).bind fun x19 =>
    (gI x18 a0 8 5).bind fun x20 =>
    (aI x18 x19 21 x20).bind fun x21 =>
    some (x21, x18)
  else none
def lp_X7_lastInQuiet_4 : Nat → Nat → Int32 → Int32 → Mm → Option Int32
  | 0, _, _, _, _ => none
  | n+1, v0, v1, v2, μ =>
    (gI μ v0 8 4).bind fun x1 =>
    if x1 ≤ v2 then
      some v1
    else
      (gP μ v0 8 3).bind fun x3 =>
      (gI μ v0 8 5).bind fun x4 =>
      (aI μ x3 21 x4).bind fun x5 =>
      if x5 ≤ 0 then
        lp_X7_lastInQuiet_4 n v0 v1 (v2 + 1) μ
      else
        (gP μ v0 8 3).bind fun x7 =>
        (gI μ v0 8 5).bind fun x8 =>
        (aI μ x7 21 (x8 ^^^ ((1 : Int32) <<< (v2 &&& 31)))).bind fun x9 =>
        if x9 ≤ 0 then
          lp_X7_lastInQuiet_4 n v0 v1 (v2 + 1) μ
        else
          lp_X7_lastInQuiet_4 n v0 (v1 ||| ((1 : Int32) <<< (v2 &&& 31))) (v2 + 1) μ
def f_X7_lastInQuiet (μ : Mm) (a0 : Nat) : Option Int32 :=
  if tg μ a0 = 8 then
    (lp_X7_lastInQuiet_4 BIG a0 (0 : Int32) (0 : Int32) μ).bind fun x11 =>
    some x11
  else none
def lp_X7_firstFit_2 : Nat → Nat → Int32 → Int32 → Mm → Option (Nat × Int32)
  | 0, _, _, _, _ => none
  | n+1, v0, v1, v2, μ =>
    (gI μ v0 8 5).bind fun x1 =>
    if x1 < v2 then
      some (1, (0 : Int32))
    else
      (gP μ v0 8 0).bind fun x3 =>
      (aI μ x3 21 v2).bind fun x4 =>
      if x4 = v1 then
        some (0, v2)
      else
        lp_X7_firstFit_2 n v0 v1 (v2 + 1) μ
def f_X7_firstFit (μ : Mm) (a0 : Nat) (p1 : Int32) : Option Int32 :=
  if tg μ a0 = 8 then
    (lp_X7_firstFit_2 BIG a0 p1 (0 : Int32) μ).bind fun x6 =>
    if x6.1 = 0 then
      some x6.2
    else
      some (-9 : Int32)
  else none
def lp_X7_countFits_5 : Nat → Nat → Int32 → Int32 → Int32 → Int32 → Mm → Option Int32
  | 0, _, _, _, _, _, _ => none
  | n+1, v0, v1, v2, v3, v4, μ =>
    (gI μ v0 8 5).bind fun x1 =>
    if x1 < v4 then
      some v3
    else
      (gP μ v0 8 0).bind fun x3 =>
      (aI μ x3 21 v4).bind fun x4 =>
      if x4 = v1 then
        if (v4 &&& v2) = v2 then
          lp_X7_countFits_5 n v0 v1 v2 (v3 + 1) (v4 + 1) μ
        else
          lp_X7_countFits_5 n v0 v1 v2 v3 (v4 + 1) μ
      else
        lp_X7_countFits_5 n v0 v1 v2 v3 (v4 + 1) μ
def f_X7_countFits (μ : Mm) (a0 : Nat) (p1 : Int32) (p2 : Int32) : Option Int32 :=
  if tg μ a0 = 8 then
    (lp_X7_countFits_5 BIG a0 p1 p2 (0 : Int32) (0 : Int32) μ).bind fun x7 =>
    some x7
  else none
def f_X8_isThere (μ : Mm) (a0 : Nat) : Option Int32 :=
  if tg μ a0 = 9 then
    (gI μ a0 9 1).bind fun x1 =>
    if x1 < 0 then
      some (0 : Int32)
    else
      some (1 : Int32)
  else none
def f_X8_hasRange (μ : Mm) (a0 : Nat) (p1 : Int32) (p2 : Int32) : Option Int32 :=
  if tg μ a0 = 9 then
    if p1 < 0 then
      some (0 : Int32)
    else
      if p2 < 0 then
        some (0 : Int32)
      else
        (gI μ a0 9 1).bind fun x3 =>
        if (x3 - p2) < p1 then
          some (0 : Int32)
        else
          some (1 : Int32)
  else none
def f_X8_close (μ : Mm) (a0 : Nat) : Option Mm :=
  if tg μ a0 = 9 then
    (pI μ a0 9 1 (-1 : Int32)).bind fun x1 =>
    some x1
  else none
def lp_X8_takeFrom_18 : Nat → Nat → Nat → Int32 → Mm → Option Mm
  | 0, _, _, _, _ => none
  | n+1, v0, v1, v2, μ =>
    (gI μ v0 9 1).bind fun x5 =>
    if x5 ≤ v2 then
      some μ
    else
      (gP μ v0 9 0).bind fun x7 =>
      (gP μ v1 9 0).bind fun x8 =>
      (aI μ x8 21 v2).bind fun x9 =>
      (qI μ x7 21 v2 x9).bind fun x10 =>
      lp_X8_takeFrom_18 n v0 v1 (v2 + 1) x10
def f_X8_takeFrom (μ : Mm) (a0 : Nat) (p1 : Nat) : Option Mm :=
  if tg μ a0 = 9 then
    (gI μ p1 9 1).bind fun x1 =>
    (gP μ a0 9 0).bind fun x2 =>
    if tg μ x2 = 21 then
    (zI μ x2).bind fun x3 =>
    (pI μ a0 9 1 (if x3 < x1 then x3 else x1)).bind fun x4 =>
    (lp_X8_takeFrom_18 BIG a0 p1 (0 : Int32) x4).bind fun x11 =>
    some x11
    else none
  else none
def lp_X8_placeOf_2 : Nat → Nat → Int32 → Int32 → Mm → Option (Nat × Int32)
  | 0, _, _, _, _ => none
  | n+1, v0, v1, v2, μ =>
    (gI μ v0 9 1).bind fun x1 =>
    if x1 ≤ v2 then
      some (1, (0 : Int32))
    else
      (gP μ v0 9 0).bind fun x3 =>
      (aI μ x3 21 v2).bind fun x4 =>
      if x4 = v1 then
        some (0, v2)
      else
        lp_X8_placeOf_2 n v0 v1 (v2 + 1) μ
def f_X8_placeOf (μ : Mm) (a0 : Nat) (p1 : Int32) : Option Int32 :=
  if tg μ a0 = 9 then
    (lp_X8_placeOf_2 BIG a0 p1 (0 : Int32) μ).bind fun x6 =>
    if x6.1 = 0 then
      some x6.2
    else
      some (-9 : Int32)
  else none
def lp_X8_total_4 : Nat → Nat → Int64 → Int32 → Mm → Option Int64
  | 0, _, _, _, _ => none
  | n+1, v0, v1, v3, μ =>
    (gI μ v0 9 1).bind fun x1 =>
    if x1 ≤ v3 then
      some v1
    else
      (gP μ v0 9 0).bind fun x3 =>
      (aI μ x3 21 v3).bind fun x4 =>
      lp_X8_total_4 n v0 (v1 + x4.toInt64) (v3 + 1) μ
def f_X8_total (μ : Mm) (a0 : Nat) : Option Int64 :=
  if tg μ a0 = 9 then
    (lp_X8_total_4 BIG a0 (0 : Int64) (0 : Int32) μ).bind fun x5 =>
    some x5
  else none
def lp_X8_mixInto_15 : Nat → Nat → Int64 → Int32 → Mm → Option Int64
  | 0, _, _, _, _ => none
  | n+1, v0, v3, v5, μ =>
    (gI μ v0 9 1).bind fun x2 =>
    if x2 ≤ v5 then
      some v3
    else
      (gP μ v0 9 0).bind fun x4 =>
      (aI μ x4 21 v5).bind fun x5 =>
      lp_X8_mixInto_15 n v0 (((31 : Int64) * v3) + x5.toInt64) (v5 + 1) μ
def f_X8_mixInto (μ : Mm) (a0 : Nat) (p1 : Int64) : Option Int64 :=
  if tg μ a0 = 9 then
    (gI μ a0 9 1).bind fun x1 =>
    (lp_X8_mixInto_15 BIG a0 (((31 : Int64) * p1) + x1.toInt64) (0 : Int32) μ).bind fun x6 =>
    some x6
  else none
def f_X9_walksForRound (μ : Mm) (a0 : Nat) (p1 : Int32) : Option Int32 :=
  if tg μ a0 = 10 then
    (f_X9_bareTread μ a0).bind fun x1 =>
    if (1 : Int32) ≤ x1 then
      if x1 = 0 then none else
      some (((p1 + x1) - (1 : Int32)) / x1)
    else
      some (-9 : Int32)
  else none
def f_X10_init (μ : Mm) (a0 : Nat) : Option Mm :=
  if tg μ a0 = 11 then
    (nA μ 21 60 (60 : Int32)).bind fun x1 =>
    (pP x1.2 a0 11 0 x1.1).bind fun x2 =>
    (nA x2 22 60 (60 : Int32)).bind fun x3 =>
    (pP x3.2 a0 11 1 x3.1).bind fun x4 =>
    (nA x4 22 60 (60 : Int32)).bind fun x5 =>
    (pP x5.2 a0 11 2 x5.1).bind fun x6 =>
    some x6
  else none
def lp_X10_spread_6 : Nat → Nat → Nat → Int32 → Int32 → Int32 → Int32 → Mm → Option (Int32 × Mm)
  | 0, _, _, _, _, _, _, _ => none
  | n+1, v0, v1, v2, v3, v4, v5, μ =>
    (gI μ v1 4 3).bind fun x1 =>
    if x1 ≤ v5 then
      some (v4, μ)
    else
      (f_X3_wrap μ v1 (v5 + v2)).bind fun x3 =>
      (gP μ v0 11 0).bind fun x4 =>
      (aI μ x4 21 v5).bind fun x5 =>
      (gP μ v0 11 0).bind fun x6 =>
      (aI μ x6 21 x3).bind fun x7 =>
      if x7 ≤ (x5 + v3) then
        lp_X10_spread_6 n v0 v1 v2 v3 v4 (v5 + 1) μ
      else
        (gP μ v0 11 0).bind fun x9 =>
        (gP μ v0 11 0).bind fun x10 =>
        (aI μ x10 21 v5).bind fun x11 =>
        (qI μ x9 21 x3 (x11 + v3)).bind fun x12 =>
        lp_X10_spread_6 n v0 v1 v2 v3 (1 : Int32) (v5 + 1) x12
def f_X10_spread (μ : Mm) (a0 : Nat) (p1 : Nat) (p2 : Int32) (p3 : Int32) : Option (Int32 × Mm) :=
  if tg μ a0 = 11 then
    (lp_X10_spread_6 BIG a0 p1 p2 p3 (0 : Int32) (0 : Int32) μ).bind fun x13 =>
    (zb x13.1).bind fun _ =>
    some (x13.1, x13.2)
  else none
def lp_X10_findCosts_2 : Nat → Nat → Nat → Int32 → Int32 → Mm → Option Mm
  | 0, _, _, _, _, _ => none
  | n+1, v0, v1, v2, v3, μ =>
    if (60 : Int32) ≤ v3 then
      some μ
    else
      (gP μ v0 11 0).bind fun x2 =>
      if v3 = 0 then
        (qI μ x2 21 v3 (0 : Int32)).bind fun x5 =>
        lp_X10_findCosts_2 n v0 v1 v2 (v3 + 1) x5
      else
        (qI μ x2 21 v3 (1000000 : Int32)).bind fun x4 =>
        lp_X10_findCosts_2 n v0 v1 v2 (v3 + 1) x4
def lp_X10_findCosts_51 : Nat → Nat → Nat → Int32 → Int32 → Int32 → Int32 → Mm → Option (Int32 × Mm)
  | 0, _, _, _, _, _, _, _ => none
  | n+1, v0, v1, v2, v3, v4, v5, μ =>
    (gI μ v1 4 2).bind fun x9 =>
    if x9 ≤ v5 then
      some (v3, μ)
    else
      ((
        if v2 = 0 then
          some (1 : Int32)
        else
          (gP μ v1 4 0).bind fun x13 =>
          (aP μ x13 24 v5).bind fun x14 =>
          (gG μ x14 0).bind fun x15 =>
          some x15
       : Option Int32)).bind fun x11 =>
      (f_X3_treadNow μ v1 v5).bind fun x16 =>
      (f_X10_spread μ v0 v1 x16 x11).bind fun x17 =>
      lp_X10_findCosts_51 n v0 v1 v2 (v3 ||| x17.1) v4 (v5 + 1) x17.2
def lp_X10_findCosts_35 : Nat → Nat → Nat → Int32 → Int32 → Int32 → Mm → Option Mm
  | 0, _, _, _, _, _, _ => none
  | n+1, v0, v1, v2, v3, v4, μ =>
    if (60 : Int32) ≤ v4 then
      some μ
    else
      if v3 = 0 then
        some μ
      else
        (lp_X10_findCosts_51 BIG v0 v1 v2 (0 : Int32) v4 (0 : Int32) μ).bind fun x18 =>
        lp_X10_findCosts_35 n v0 v1 v2 x18.1 (v4 + 1) x18.2
def f_X10_findCosts (μ : Mm) (a0 : Nat) (p1 : Nat) (p2 : Int32) : Option Mm :=
  if tg μ a0 = 11 then
    (lp_X10_findCosts_2 BIG a0 p1 p2 (0 : Int32) μ).bind fun x6 =>
    (lp_X10_findCosts_35 BIG a0 p1 p2 (1 : Int32) (0 : Int32) x6).bind fun x19 =>
    some x19
  else none
def f_X10_costOf (μ : Mm) (a0 : Nat) (p1 : Int32) : Option Int32 :=
  if tg μ a0 = 11 then
    (gP μ a0 11 0).bind fun x1 =>
    (aI μ x1 21 p1).bind fun x2 =>
    if x2 < (1000000 : Int32) then
      (gP μ a0 11 0).bind fun x4 =>
      (aI μ x4 21 p1).bind fun x5 =>
      some x5
    else
      some (-9 : Int32)
  else none
def lp_X10_firstWalker_2 : Nat → Nat → Nat → Int32 → Int32 → Mm → Option (Nat × Int32)
  | 0, _, _, _, _, _ => none
  | n+1, v0, v1, v2, v3, μ =>
    (gI μ v1 4 2).bind fun x1 =>
    if x1 ≤ v3 then
      some (1, (0 : Int32))
    else
      (gP μ v0 11 0).bind fun x3 =>
      (f_X3_treadNow μ v1 v3).bind fun x4 =>
      (f_X3_wrap μ v1 (v2 - x4)).bind fun x5 =>
      (aI μ x3 21 x5).bind fun x6 =>
      (gP μ v0 11 0).bind fun x7 =>
      (aI μ x7 21 v2).bind fun x8 =>
      if x6 = (x8 - (1 : Int32)) then
        some (0, v3)
      else
        lp_X10_firstWalker_2 n v0 v1 v2 (v3 + 1) μ
def f_X10_firstWalker (μ : Mm) (a0 : Nat) (p1 : Nat) (p2 : Int32) : Option Int32 :=
  if tg μ a0 = 11 then
    (lp_X10_firstWalker_2 BIG a0 p1 p2 (0 : Int32) μ).bind fun x10 =>
    if x10.1 = 0 then
      some x10.2
    else
      some (-9 : Int32)
  else none
def lp_X10_countOneMore_2 : Nat → Nat → Nat → Int32 → Mm → Option Mm
  | 0, _, _, _, _ => none
  | n+1, v0, v1, v2, μ =>
    if (60 : Int32) ≤ v2 then
      some μ
    else
      (gP μ v0 11 2).bind fun x2 =>
      (gP μ v0 11 1).bind fun x3 =>
      (aL μ x3 22 v2).bind fun x4 =>
      (qL μ x2 22 v2 x4).bind fun x5 =>
      (gP x5 v0 11 1).bind fun x6 =>
      (qL x5 x6 22 v2 (0 : Int64)).bind fun x7 =>
      lp_X10_countOneMore_2 n v0 v1 (v2 + 1) x7
def lp_X10_countOneMore_52 : Nat → Nat → Nat → Int32 → Int32 → Int32 → Mm → Option Mm
  | 0, _, _, _, _, _, _ => none
  | n+1, v0, v1, v2, v3, v4, μ =>
    (gI μ v1 4 3).bind fun x12 =>
    if x12 ≤ v4 then
      some μ
    else
      (gP μ v0 11 1).bind fun x14 =>
      (f_X3_wrap μ v1 (v4 + v3)).bind fun x15 =>
      (aL μ x14 22 x15).bind fun x16 =>
      (gP μ v0 11 2).bind fun x17 =>
      (aL μ x17 22 v4).bind fun x18 =>
      (qL μ x14 22 x15 (x16 + x18)).bind fun x19 =>
      lp_X10_countOneMore_52 n v0 v1 v2 v3 (v4 + 1) x19
def lp_X10_countOneMore_35 : Nat → Nat → Nat → Int32 → Mm → Option Mm
  | 0, _, _, _, _ => none
  | n+1, v0, v1, v2, μ =>
    (gI μ v1 4 2).bind fun x9 =>
    if x9 ≤ v2 then
      some μ
    else
      (f_X3_treadNow μ v1 v2).bind fun x11 =>
      (lp_X10_countOneMore_52 BIG v0 v1 v2 x11 (0 : Int32) μ).bind fun x20 =>
      lp_X10_countOneMore_35 n v0 v1 (v2 + 1) x20
def f_X10_countOneMore (μ : Mm) (a0 : Nat) (p1 : Nat) : Option Mm :=
  if tg μ a0 = 11 then
    (lp_X10_countOneMore_2 BIG a0 p1 (0 : Int32) μ).bind fun x8 =>
    (lp_X10_countOneMore_35 BIG a0 p1 (0 : Int32) x8).bind fun x21 =>
    some x21
  else none
def lp_X10_countRows_2 : Nat → Nat → Nat → Int32 → Int32 → Mm → Option Mm
  | 0, _, _, _, _, _ => none
  | n+1, v0, v1, v2, v3, μ =>
    if (60 : Int32) ≤ v3 then
      some μ
    else
      (gP μ v0 11 1).bind fun x2 =>
      if v3 = 0 then
        (qL μ x2 22 v3 (1 : Int64)).bind fun x5 =>
        lp_X10_countRows_2 n v0 v1 v2 (v3 + 1) x5
      else
        (qL μ x2 22 v3 (0 : Int64)).bind fun x4 =>
        lp_X10_countRows_2 n v0 v1 v2 (v3 + 1) x4
def lp_X10_countRows_31 : Nat → Nat → Nat → Int32 → Int32 → Mm → Option Mm
  | 0, _, _, _, _, _ => none
  | n+1, v0, v1, v2, v3, μ =>
    if v2 ≤ v3 then
      some μ
    else
      (f_X10_countOneMore μ v0 v1).bind fun x8 =>
      lp_X10_countRows_31 n v0 v1 v2 (v3 + 1) x8
def f_X10_countRows (μ : Mm) (a0 : Nat) (p1 : Nat) (p2 : Int32) : Option Mm :=
  if tg μ a0 = 11 then
    (lp_X10_countRows_2 BIG a0 p1 p2 (0 : Int32) μ).bind fun x6 =>
    (lp_X10_countRows_31 BIG a0 p1 p2 (0 : Int32) x6).bind fun x9 =>
    some x9
  else none
def f_X10_rowsOf (μ : Mm) (a0 : Nat) (p1 : Int32) : Option Int64 :=
  if tg μ a0 = 11 then
    (gP μ a0 11 1).bind fun x1 =>
    (aL μ x1 22 p1).bind fun x2 =>
    some x2
  else none
def lp_X11_init_127 : Nat → Nat → Int32 → Mm → Option Mm
  | 0, _, _, _ => none
  | n+1, v0, v1, μ =>
    if (6 : Int32) ≤ v1 then
      some μ
    else
      (gP μ v0 12 0).bind fun x31 =>
      (f_X8_init (nw μ 9 0) (hz μ) (40 : Int32)).bind fun x33 =>
      (qP x33 x31 25 v1 9 (hz μ)).bind fun x34 =>
      lp_X11_init_127 n v0 (v1 + 1) x34
def lp_X11_init_156 : Nat → Nat → Int32 → Mm → Option Mm
  | 0, _, _, _ => none
  | n+1, v0, v1, μ =>
    if (4 : Int32) ≤ v1 then
      some μ
    else
      (gP μ v0 12 1).bind fun x37 =>
      (f_X8_init (nw μ 9 0) (hz μ) (60 : Int32)).bind fun x39 =>
      (qP x39 x37 25 v1 9 (hz μ)).bind fun x40 =>
      lp_X11_init_156 n v0 (v1 + 1) x40
def lp_X11_init_184 : Nat → Nat → Int32 → Mm → Option Mm
  | 0, _, _, _ => none
  | n+1, v0, v1, μ =>
    if (3 : Int32) ≤ v1 then
      some μ
    else
      (gP μ v0 12 3).bind fun x43 =>
      (f_X8_init (nw μ 9 0) (hz μ) (60 : Int32)).bind fun x45 =>
      (qP x45 x43 25 v1 9 (hz μ)).bind fun x46 =>
      lp_X11_init_184 n v0 (v1 + 1) x46
def f_X11_init (μ : Mm) (a0 : Nat) : Option Mm :=
  if tg μ a0 = 12 then
    (nA μ 25 6 (6 : Int32)).bind fun x1 =>
    (pP x1.2 a0 12 0 x1.1).bind fun x2 =>
    (nA x2 25 4 (4 : Int32)).bind fun x3 =>
    (pP x3.2 a0 12 1 x3.1).bind fun x4 =>
    (f_X3_init (nw x4 4 0) (hz x4)).bind fun x6 =>
    (pP x6 a0 12 2 (hz x4)).bind fun x7 =>
    (nA x7 25 3 (3 : Int32)).bind fun x8 =>
    (pP x8.2 a0 12 3 x8.1).bind fun x9 =>
    (nM x9 (3 : Int32) (6 : Int32)).bind fun x10 =>
    (pP x10.2 a0 12 4 x10.1).bind fun x11 =>
    (f_X5_init (nw x11 6 0) (hz x11)).bind fun x13 =>
    (pP x13 a0 12 5 (hz x11)).bind fun x14 =>
    (f_X7_init (nw x14 8 0) (hz x14)).bind fun x16 =>
    (pP x16 a0 12 6 (hz x14)).bind fun x17 =>
    (f_X8_init (nw x17 9 0) (hz x17) (6 : Int32)).bind fun x19 =>
    (pP x19 a0 12 7 (hz x17)).bind fun x20 =>
    (f_X10_init (nw x20 11 0) (hz x20)).bind fun x22 =>
    (pP x22 a0 12 8 (hz x20)).bind fun x23 =>
    (nA x23 21 6 (6 : Int32)).bind fun x24 =>
    (pP x24.2 a0 12 9 x24.1).bind fun x25 =>
    (pI x25 a0 12 10 (0 : Int32)).bind fun x26 =>
    (pI x26 a0 12 11 (0 : Int32)).bind fun x27 =>
    (pL x27 a0 12 12 (0 : Int64)).bind fun x28 =>
    (pL x28 a0 12 13 (1 : Int64)).bind fun x29 =>
    (lp_X11_init_127 7 a0 (0 : Int32) x29).bind fun x35 =>
    (lp_X11_init_156 7 a0 (0 : Int32) x35).bind fun x41 =>
    (lp_X11_init_184 7 a0 (0 : Int32) x41).bind fun x47 =>
    some x47
  else none
def f_X11_find (μ : Mm) (a0 : Nat) (p1 : Int32) : Option (Int32 × Mm) :=
  if tg μ a0 = 12 then
    (pI μ a0 12 10 p1).bind fun x1 =>
    (gP x1 a0 12 9).bind fun x2 =>
    (aI x1 x2 21 p1).bind fun x3 =>
    (qI x1 x2 21 p1 (x3 + (1 : Int32))).bind fun x4 =>
    some ((-3 : Int32), x4)
  else none
def f_X11_has (μ : Mm) (p0 : Nat) (p1 : Int32) : Option Int32 :=
  if p1 < 0 then
    some (0 : Int32)
  else
    if tg μ p0 = 25 then
    (zI μ p0).bind fun x2 =>
    if x2 ≤ p1 then
      some (0 : Int32)
    else
      some (1 : Int32)
    else none
def f_X11_open (μ : Mm) (a0 : Nat) (p1 : Nat) (p2 : Int32) (p3 : Int32) (p4 : Int32) : Option (Int32 × Mm) :=
  if tg μ a0 = 12 then
    (f_X11_has μ p1 p2).bind fun x1 =>
    if x1 = 0 then
      some ((-1 : Int32), μ)
    else
      (aP μ p1 25 p2).bind fun x3 =>
      (gP μ x3 9 0).bind fun x4 =>
      if tg μ x4 = 21 then
      (zI μ x4).bind fun x5 =>
      if p3 ≤ x5 then
        if 0 ≤ p3 then
          (aP μ p1 25 p2).bind fun x8 =>
          (f_X8_open μ x8 p3 p4).bind fun x9 =>
          some (p3, x9)
        else
          (f_X11_find μ a0 (5 : Int32)).bind fun x10 =>
          some (x10.1, x10.2)
      else
        some ((-1 : Int32), μ)
      else none
  else none
def f_X11_row (μ : Mm) (a0 : Nat) (p1 : Int32) (p2 : Int32) : Option (Int32 × Mm) :=
  if tg μ a0 = 12 then
    (gP μ a0 12 0).bind fun x1 =>
    (f_X11_open μ a0 x1 p1 p2 (0 : Int32)).bind fun x2 =>
    some (x2.1, x2.2)
  else none
def f_X11_refuse (μ : Mm) (a0 : Nat) (p1 : Nat) (p2 : Int32) : Option (Int32 × Mm) :=
  if tg μ a0 = 12 then
    (f_X11_has μ p1 p2).bind fun x1 =>
    if x1 = 0 then
      some ((-1 : Int32), μ)
    else
      (aP μ p1 25 p2).bind fun x3 =>
      (f_X8_isThere μ x3).bind fun x4 =>
      if x4 = 0 then
        (f_X11_find μ a0 (1 : Int32)).bind fun x6 =>
        some (x6.1, x6.2)
      else
        some ((0 : Int32), μ)
  else none
def f_X11_refusePlace (μ : Mm) (a0 : Nat) (p1 : Nat) (p2 : Int32) (p3 : Int32) : Option (Int32 × Mm) :=
  if tg μ a0 = 12 then
    (f_X11_refuse μ a0 p1 p2).bind fun x1 =>
    if x1.1 = 0 then
      (aP x1.2 p1 25 p2).bind fun x3 =>
      (f_X8_has x1.2 x3 p3).bind fun x4 =>
      if x4 = 0 then
        (f_X11_find x1.2 a0 (2 : Int32)).bind fun x6 =>
        some (x6.1, x6.2)
      else
        some ((0 : Int32), x1.2)
    else
      some (x1.1, x1.2)
  else none
def f_X11_tell (μ : Mm) (a0 : Nat) (p1 : Int32) : Option (Int32 × Mm) :=
  if tg μ a0 = 12 then
    (pI μ a0 12 11 p1).bind fun x1 =>
    some ((1 : Int32), x1)
  else none
def f_X11_lay (μ : Mm) (a0 : Nat) (p1 : Int32) (p2 : Int32) (p3 : Int32) : Option (Int32 × Mm) :=
  if tg μ a0 = 12 then
    (gP μ a0 12 0).bind fun x1 =>
    (f_X11_refusePlace μ a0 x1 p1 p2).bind fun x2 =>
    if x2.1 = 0 then
      (gP x2.2 a0 12 0).bind fun x4 =>
      (aP x2.2 x4 25 p1).bind fun x5 =>
      (f_X8_replace x2.2 x5 p2 p3).bind fun x6 =>
      (f_X11_tell x6.2 a0 x6.1).bind fun x7 =>
      some (x7.1, x7.2)
    else
      some (x2.1, x2.2)
  else none
def f_X11_at (μ : Mm) (a0 : Nat) (p1 : Int32) (p2 : Int32) : Option (Int32 × Mm) :=
  if tg μ a0 = 12 then
    (gP μ a0 12 0).bind fun x1 =>
    (f_X11_refusePlace μ a0 x1 p1 p2).bind fun x2 =>
    if x2.1 = 0 then
      (gP x2.2 a0 12 0).bind fun x4 =>
      (aP x2.2 x4 25 p1).bind fun x5 =>
      (gP x2.2 x5 9 0).bind fun x6 =>
      (aI x2.2 x6 21 p2).bind fun x7 =>
      (f_X11_tell x2.2 a0 x7).bind fun x8 =>
      some (x8.1, x8.2)
    else
      some (x2.1, x2.2)
  else none
def f_X11_tear (μ : Mm) (a0 : Nat) (p1 : Int32) : Option (Int32 × Mm) :=
  if tg μ a0 = 12 then
    (gP μ a0 12 0).bind fun x1 =>
    (f_X11_refuse μ a0 x1 p1).bind fun x2 =>
    if x2.1 = 0 then
      (gP x2.2 a0 12 0).bind fun x4 =>
      (aP x2.2 x4 25 p1).bind fun x5 =>
      (f_X8_close x2.2 x5).bind fun x6 =>
      some ((1 : Int32), x6)
    else
      some (x2.1, x2.2)
  else none
def f_X11_copy (μ : Mm) (a0 : Nat) (p1 : Int32) (p2 : Int32) (p3 : Int32) (p4 : Int32) (p5 : Int32) : Option (Int32 × Mm) :=
  if tg μ a0 = 12 then
    (gP μ a0 12 0).bind fun x1 =>
    (f_X11_has μ x1 p1).bind fun x2 =>
    if x2 = 0 then
      some ((-1 : Int32), μ)
    else
      (gP μ a0 12 0).bind fun x4 =>
      (f_X11_has μ x4 p3).bind fun x5 =>
      if x5 = 0 then
        some ((-1 : Int32), μ)
      else
        if 0 ≤ p5 then
          (gP μ a0 12 0).bind fun x8 =>
          (aP μ x8 25 p1).bind fun x9 =>
          (f_X8_isThere μ x9).bind fun x10 =>
          if x10 = 0 then
            (f_X11_find μ a0 (1 : Int32)).bind fun x12 =>
            some (x12.1, x12.2)
          else
            (gP μ a0 12 0).bind fun x13 =>
            (aP μ x13 25 p3).bind fun x14 =>
            (f_X8_isThere μ x14).bind fun x15 =>
            if x15 = 0 then
              (f_X11_find μ a0 (1 : Int32)).bind fun x34 =>
              some (x34.1, x34.2)
            else
              (gP μ a0 12 0).bind fun x17 =>
              (aP μ x17 25 p1).bind fun x18 =>
              (f_X8_hasRange μ x18 p2 p5).bind fun x19 =>
              if x19 = 0 then
                (f_X11_find μ a0 (2 : Int32)).bind fun x21 =>
                some (x21.1, x21.2)
              else
                (gP μ a0 12 0).bind fun x22 =>
                (aP μ x22 25 p3).bind fun x23 =>
                (f_X8_hasRange μ x23 p4 p5).bind fun x24 =>
                if x24 = 0 then
                  (f_X11_find μ a0 (2 : Int32)).bind fun x33 =>
                  some (x33.1, x33.2)
                else
                  (gP μ a0 12 0).bind fun x26 =>
                  (aP μ x26 25 p1).bind fun x27 =>
                  (gP μ x27 9 0).bind fun x28 =>
                  (gP μ a0 12 0).bind fun x29 =>
                  (aP μ x29 25 p3).bind fun x30 =>
                  (gP μ x30 9 0).bind fun x31 =>
                  (cI μ x28 p2 x31 p4 p5).bind fun x32 =>
                  some ((1 : Int32), x32)
        else
          (f_X11_find μ a0 (5 : Int32)).bind fun x35 =>
          some (x35.1, x35.2)
  else none
def f_X11_mean (μ : Mm) (a0 : Nat) (p1 : Int32) : Option (Int32 × Mm) :=
  if tg μ a0 = 12 then
    (gP μ a0 12 0).bind fun x1 =>
    (f_X11_refuse μ a0 x1 p1).bind fun x2 =>
    if x2.1 = 0 then
      (gP x2.2 a0 12 0).bind fun x4 =>
      (aP x2.2 x4 25 p1).bind fun x5 =>
      (gI x2.2 x5 9 1).bind fun x6 =>
      if x6 = 0 then
        (f_X11_find x2.2 a0 (4 : Int32)).bind fun x16 =>
        some (x16.1, x16.2)
      else
        (gP x2.2 a0 12 0).bind fun x8 =>
        (aP x2.2 x8 25 p1).bind fun x9 =>
        (f_X8_total x2.2 x9).bind fun x10 =>
        (gP x2.2 a0 12 0).bind fun x11 =>
        (aP x2.2 x11 25 p1).bind fun x12 =>
        (gI x2.2 x12 9 1).bind fun x13 =>
        if x13.toInt64 = 0 then none else
        (f_X11_tell x2.2 a0 ((x10 / x13.toInt64).toInt32)).bind fun x15 =>
        some (x15.1, x15.2)
    else
      some (x2.1, x2.2)
  else none
def f_X11_text (μ : Mm) (a0 : Nat) (p1 : Int32) (p2 : Int32) : Option (Int32 × Mm) :=
  if tg μ a0 = 12 then
    (gP μ a0 12 1).bind fun x1 =>
    (f_X11_open μ a0 x1 p1 p2 (32 : Int32)).bind fun x2 =>
    some (x2.1, x2.2)
  else none
def f_X11_put (μ : Mm) (a0 : Nat) (p1 : Int32) (p2 : Int32) (p3 : Int32) : Option (Int32 × Mm) :=
  if tg μ a0 = 12 then
    (gP μ a0 12 1).bind fun x1 =>
    (f_X11_refusePlace μ a0 x1 p1 p2).bind fun x2 =>
    if x2.1 = 0 then
      (gP x2.2 a0 12 1).bind fun x4 =>
      (aP x2.2 x4 25 p1).bind fun x5 =>
      (f_X8_replace x2.2 x5 p2 p3.toInt8.toInt32).bind fun x6 =>
      some (((1000 : Int32) + x6.1), x6.2)
    else
      some (x2.1, x2.2)
  else none
def f_X11_fault (μ : Mm) (a0 : Nat) (p1 : Int32) : Option (Int32 × Mm) :=
  if tg μ a0 = 12 then
    (gP μ a0 12 1).bind fun x1 =>
    (f_X11_refuse μ a0 x1 p1).bind fun x2 =>
    if x2.1 = 0 then
      (gP x2.2 a0 12 5).bind fun x4 =>
      (gP x2.2 a0 12 1).bind fun x5 =>
      (aP x2.2 x5 25 p1).bind fun x6 =>
      (f_X5_read x2.2 x4 x6).bind fun x7 =>
      some (x7.1, x7.2)
    else
      some (x2.1, x2.2)
  else none
def lp_X11_hall_57 : Nat → Nat → Int32 → Mm → Option Mm
  | 0, _, _, _ => none
  | n+1, v0, v3, μ =>
    if (3 : Int32) ≤ v3 then
      some μ
    else
      (gP μ v0 12 3).bind fun x15 =>
      (aP μ x15 25 v3).bind fun x16 =>
      (f_X8_close μ x16).bind fun x17 =>
      lp_X11_hall_57 n v0 (v3 + 1) x17
def f_X11_hall (μ : Mm) (a0 : Nat) (p1 : Int32) : Option (Int32 × Mm) :=
  if tg μ a0 = 12 then
    (gP μ a0 12 1).bind fun x1 =>
    (f_X11_refuse μ a0 x1 p1).bind fun x2 =>
    if x2.1 = 0 then
      (gP x2.2 a0 12 5).bind fun x4 =>
      (gP x2.2 a0 12 1).bind fun x5 =>
      (aP x2.2 x5 25 p1).bind fun x6 =>
      (f_X5_read x2.2 x4 x6).bind fun x7 =>
      if x7.1 = (-9 : Int32) then
        (gP x7.2 a0 12 2).bind fun x9 =>
        (gP x7.2 a0 12 5).bind fun x10 =>
        (f_X3_build x7.2 x9 x10).bind fun x11 =>
        (gP x11 a0 12 2).bind fun x12 =>
        (f_X3_replay x11 x12).bind fun x13 =>
        (lp_X11_hall_57 BIG a0 (0 : Int32) x13).bind fun x18 =>
        (gP x18 a0 12 2).bind fun x19 =>
        (gI x18 x19 4 2).bind fun x20 =>
        some (x20, x18)
      else
        some ((-4 : Int32), x7.2)
    else
      some (x2.1, x2.2)
  else none
def f_X11_guild (μ : Mm) (a0 : Nat) (p1 : Int32) (p2 : Int32) : Option (Int32 × Mm) :=
  if tg μ a0 = 12 then
    (gP μ a0 12 2).bind fun x1 =>
    (f_X3_hasGuild μ x1 p1).bind fun x2 =>
    if x2 = 0 then
      some ((-1 : Int32), μ)
    else
      if p2 < 0 then
        some ((-1 : Int32), μ)
      else
        if p2 ≤ (4 : Int32) then
          (gP μ a0 12 2).bind fun x6 =>
          (f_X3_detail μ x6 p1 p2).bind fun x7 =>
          (f_X11_tell μ a0 x7).bind fun x8 =>
          some (x8.1, x8.2)
        else
          some ((-1 : Int32), μ)
  else none
def f_X11_mark (μ : Mm) (a0 : Nat) (p1 : Int32) (p2 : Int32) : Option (Int32 × Mm) :=
  if tg μ a0 = 12 then
    (gP μ a0 12 2).bind fun x1 =>
    (f_X3_hasGuild μ x1 p1).bind fun x2 =>
    if x2 = 0 then
      some ((-1 : Int32), μ)
    else
      if p2 < (1 : Int32) then
        some ((-1 : Int32), μ)
      else
        if p2 ≤ (5 : Int32) then
          (gP μ a0 12 2).bind fun x6 =>
          (gP μ x6 4 0).bind fun x7 =>
          (aP μ x7 24 p1).bind fun x8 =>
          if p2 = (1 : Int32) then
            (ins μ x8 [5, 7]).bind fun x117 =>
            if x117 = 0 then
              if p2 = (2 : Int32) then
                (ins μ x8 [2, 10]).bind fun x171 =>
                if x171 = 0 then
                  if p2 = (3 : Int32) then
                    (ins μ x8 [1]).bind fun x197 =>
                    if x197 = 0 then
                      if p2 = (4 : Int32) then
                        (ins μ x8 [7]).bind fun x209 =>
                        if x209 = 0 then
                          if p2 = (5 : Int32) then
                            (ins μ x8 [10]).bind fun x213 =>
                            if x213 = 0 then
                              (f_X11_find μ a0 (3 : Int32)).bind fun x215 =>
                              some (x215.1, x215.2)
                            else
                              (cst μ x8 [10]).bind fun _ =>
                              (gP μ a0 12 2).bind fun x217 =>
                              (gI μ x217 4 3).bind fun x218 =>
                              (f_X9_walksForRound μ x8 x218).bind fun x219 =>
                              some (x219, μ)
                          else
                            (f_X11_find μ a0 (3 : Int32)).bind fun x212 =>
                            some (x212.1, x212.2)
                        else
                          (cst μ x8 [7]).bind fun _ =>
                          (f_X6_uncountedFeet μ x8).bind fun x221 =>
                          some (x221, μ)
                      else
                        if p2 = (5 : Int32) then
                          (ins μ x8 [10]).bind fun x202 =>
                          if x202 = 0 then
                            (f_X11_find μ a0 (3 : Int32)).bind fun x204 =>
                            some (x204.1, x204.2)
                          else
                            (cst μ x8 [10]).bind fun _ =>
                            (gP μ a0 12 2).bind fun x206 =>
                            (gI μ x206 4 3).bind fun x207 =>
                            (f_X9_walksForRound μ x8 x207).bind fun x208 =>
                            some (x208, μ)
                        else
                          (f_X11_find μ a0 (3 : Int32)).bind fun x201 =>
                          some (x201.1, x201.2)
                    else
                      (gP μ a0 12 2).bind fun x222 =>
                      (f_X3_countStill μ x222).bind fun x223 =>
                      some (x223, μ)
                  else
                    if p2 = (4 : Int32) then
                      (ins μ x8 [7]).bind fun x184 =>
                      if x184 = 0 then
                        if p2 = (5 : Int32) then
                          (ins μ x8 [10]).bind fun x188 =>
                          if x188 = 0 then
                            (f_X11_find μ a0 (3 : Int32)).bind fun x190 =>
                            some (x190.1, x190.2)
                          else
                            (cst μ x8 [10]).bind fun _ =>
                            (gP μ a0 12 2).bind fun x192 =>
                            (gI μ x192 4 3).bind fun x193 =>
                            (f_X9_walksForRound μ x8 x193).bind fun x194 =>
                            some (x194, μ)
                        else
                          (f_X11_find μ a0 (3 : Int32)).bind fun x187 =>
                          some (x187.1, x187.2)
                      else
                        (cst μ x8 [7]).bind fun _ =>
                        (f_X6_uncountedFeet μ x8).bind fun x196 =>
                        some (x196, μ)
                    else
                      if p2 = (5 : Int32) then
                        (ins μ x8 [10]).bind fun x177 =>
                        if x177 = 0 then
                          (f_X11_find μ a0 (3 : Int32)).bind fun x179 =>
                          some (x179.1, x179.2)
                        else
                          (cst μ x8 [10]).bind fun _ =>
                          (gP μ a0 12 2).bind fun x181 =>
                          (gI μ x181 4 3).bind fun x182 =>
                          (f_X9_walksForRound μ x8 x182).bind fun x183 =>
                          some (x183, μ)
                      else
                        (f_X11_find μ a0 (3 : Int32)).bind fun x176 =>
                        some (x176.1, x176.2)
                else
                  (gP μ a0 12 2).bind fun x224 =>
                  (f_X3_countChildren μ x224).bind fun x225 =>
                  some (x225, μ)
              else
                if p2 = (3 : Int32) then
                  (ins μ x8 [1]).bind fun x144 =>
                  if x144 = 0 then
                    if p2 = (4 : Int32) then
                      (ins μ x8 [7]).bind fun x156 =>
                      if x156 = 0 then
                        if p2 = (5 : Int32) then
                          (ins μ x8 [10]).bind fun x160 =>
                          if x160 = 0 then
                            (f_X11_find μ a0 (3 : Int32)).bind fun x162 =>
                            some (x162.1, x162.2)
                          else
                            (cst μ x8 [10]).bind fun _ =>
                            (gP μ a0 12 2).bind fun x164 =>
                            (gI μ x164 4 3).bind fun x165 =>
                            (f_X9_walksForRound μ x8 x165).bind fun x166 =>
                            some (x166, μ)
                        else
                          (f_X11_find μ a0 (3 : Int32)).bind fun x159 =>
                          some (x159.1, x159.2)
                      else
                        (cst μ x8 [7]).bind fun _ =>
                        (f_X6_uncountedFeet μ x8).bind fun x168 =>
                        some (x168, μ)
                    else
                      if p2 = (5 : Int32) then
                        (ins μ x8 [10]).bind fun x149 =>
                        if x149 = 0 then
                          (f_X11_find μ a0 (3 : Int32)).bind fun x151 =>
                          some (x151.1, x151.2)
                        else
                          (cst μ x8 [10]).bind fun _ =>
                          (gP μ a0 12 2).bind fun x153 =>
                          (gI μ x153 4 3).bind fun x154 =>
                          (f_X9_walksForRound μ x8 x154).bind fun x155 =>
                          some (x155, μ)
                      else
                        (f_X11_find μ a0 (3 : Int32)).bind fun x148 =>
                        some (x148.1, x148.2)
                  else
                    (gP μ a0 12 2).bind fun x169 =>
                    (f_X3_countStill μ x169).bind fun x170 =>
                    some (x170, μ)
                else
                  if p2 = (4 : Int32) then
                    (ins μ x8 [7]).bind fun x131 =>
                    if x131 = 0 then
                      if p2 = (5 : Int32) then
                        (ins μ x8 [10]).bind fun x135 =>
                        if x135 = 0 then
                          (f_X11_find μ a0 (3 : Int32)).bind fun x137 =>
                          some (x137.1, x137.2)
                        else
                          (cst μ x8 [10]).bind fun _ =>
                          (gP μ a0 12 2).bind fun x139 =>
                          (gI μ x139 4 3).bind fun x140 =>
                          (f_X9_walksForRound μ x8 x140).bind fun x141 =>
                          some (x141, μ)
                      else
                        (f_X11_find μ a0 (3 : Int32)).bind fun x134 =>
                        some (x134.1, x134.2)
                    else
                      (cst μ x8 [7]).bind fun _ =>
                      (f_X6_uncountedFeet μ x8).bind fun x143 =>
                      some (x143, μ)
                  else
                    if p2 = (5 : Int32) then
                      (ins μ x8 [10]).bind fun x124 =>
                      if x124 = 0 then
                        (f_X11_find μ a0 (3 : Int32)).bind fun x126 =>
                        some (x126.1, x126.2)
                      else
                        (cst μ x8 [10]).bind fun _ =>
                        (gP μ a0 12 2).bind fun x128 =>
                        (gI μ x128 4 3).bind fun x129 =>
                        (f_X9_walksForRound μ x8 x129).bind fun x130 =>
                        some (x130, μ)
                    else
                      (f_X11_find μ a0 (3 : Int32)).bind fun x123 =>
                      some (x123.1, x123.2)
            else
              (cst μ x8 [5, 7]).bind fun _ =>
              (f_X4_gain μ x8).bind fun x227 =>
              some (x227, μ)
          else
            if p2 = (2 : Int32) then
              (ins μ x8 [2, 10]).bind fun x62 =>
              if x62 = 0 then
                if p2 = (3 : Int32) then
                  (ins μ x8 [1]).bind fun x88 =>
                  if x88 = 0 then
                    if p2 = (4 : Int32) then
                      (ins μ x8 [7]).bind fun x100 =>
                      if x100 = 0 then
                        if p2 = (5 : Int32) then
                          (ins μ x8 [10]).bind fun x104 =>
                          if x104 = 0 then
                            (f_X11_find μ a0 (3 : Int32)).bind fun x106 =>
                            some (x106.1, x106.2)
                          else
                            (cst μ x8 [10]).bind fun _ =>
                            (gP μ a0 12 2).bind fun x108 =>
                            (gI μ x108 4 3).bind fun x109 =>
                            (f_X9_walksForRound μ x8 x109).bind fun x110 =>
                            some (x110, μ)
                        else
                          (f_X11_find μ a0 (3 : Int32)).bind fun x103 =>
                          some (x103.1, x103.2)
                      else
                        (cst μ x8 [7]).bind fun _ =>
                        (f_X6_uncountedFeet μ x8).bind fun x112 =>
                        some (x112, μ)
                    else
                      if p2 = (5 : Int32) then
                        (ins μ x8 [10]).bind fun x93 =>
                        if x93 = 0 then
                          (f_X11_find μ a0 (3 : Int32)).bind fun x95 =>
                          some (x95.1, x95.2)
                        else
                          (cst μ x8 [10]).bind fun _ =>
                          (gP μ a0 12 2).bind fun x97 =>
                          (gI μ x97 4 3).bind fun x98 =>
                          (f_X9_walksForRound μ x8 x98).bind fun x99 =>
                          some (x99, μ)
                      else
                        (f_X11_find μ a0 (3 : Int32)).bind fun x92 =>
                        some (x92.1, x92.2)
                  else
                    (gP μ a0 12 2).bind fun x113 =>
                    (f_X3_countStill μ x113).bind fun x114 =>
                    some (x114, μ)
                else
                  if p2 = (4 : Int32) then
                    (ins μ x8 [7]).bind fun x75 =>
                    if x75 = 0 then
                      if p2 = (5 : Int32) then
                        (ins μ x8 [10]).bind fun x79 =>
                        if x79 = 0 then
                          (f_X11_find μ a0 (3 : Int32)).bind fun x81 =>
                          some (x81.1, x81.2)
                        else
                          (cst μ x8 [10]).bind fun _ =>
                          (gP μ a0 12 2).bind fun x83 =>
                          (gI μ x83 4 3).bind fun x84 =>
                          (f_X9_walksForRound μ x8 x84).bind fun x85 =>
                          some (x85, μ)
                      else
                        (f_X11_find μ a0 (3 : Int32)).bind fun x78 =>
                        some (x78.1, x78.2)
                    else
                      (cst μ x8 [7]).bind fun _ =>
                      (f_X6_uncountedFeet μ x8).bind fun x87 =>
                      some (x87, μ)
                  else
                    if p2 = (5 : Int32) then
                      (ins μ x8 [10]).bind fun x68 =>
                      if x68 = 0 then
                        (f_X11_find μ a0 (3 : Int32)).bind fun x70 =>
                        some (x70.1, x70.2)
                      else
                        (cst μ x8 [10]).bind fun _ =>
                        (gP μ a0 12 2).bind fun x72 =>
                        (gI μ x72 4 3).bind fun x73 =>
                        (f_X9_walksForRound μ x8 x73).bind fun x74 =>
                        some (x74, μ)
                    else
                      (f_X11_find μ a0 (3 : Int32)).bind fun x67 =>
                      some (x67.1, x67.2)
              else
                (gP μ a0 12 2).bind fun x115 =>
                (f_X3_countChildren μ x115).bind fun x116 =>
                some (x116, μ)
            else
              if p2 = (3 : Int32) then
                (ins μ x8 [1]).bind fun x35 =>
                if x35 = 0 then
                  if p2 = (4 : Int32) then
                    (ins μ x8 [7]).bind fun x47 =>
                    if x47 = 0 then
                      if p2 = (5 : Int32) then
                        (ins μ x8 [10]).bind fun x51 =>
                        if x51 = 0 then
                          (f_X11_find μ a0 (3 : Int32)).bind fun x53 =>
                          some (x53.1, x53.2)
                        else
                          (cst μ x8 [10]).bind fun _ =>
                          (gP μ a0 12 2).bind fun x55 =>
                          (gI μ x55 4 3).bind fun x56 =>
                          (f_X9_walksForRound μ x8 x56).bind fun x57 =>
                          some (x57, μ)
                      else
                        (f_X11_find μ a0 (3 : Int32)).bind fun x50 =>
                        some (x50.1, x50.2)
                    else
                      (cst μ x8 [7]).bind fun _ =>
                      (f_X6_uncountedFeet μ x8).bind fun x59 =>
                      some (x59, μ)
                  else
                    if p2 = (5 : Int32) then
                      (ins μ x8 [10]).bind fun x40 =>
                      if x40 = 0 then
                        (f_X11_find μ a0 (3 : Int32)).bind fun x42 =>
                        some (x42.1, x42.2)
                      else
                        (cst μ x8 [10]).bind fun _ =>
                        (gP μ a0 12 2).bind fun x44 =>
                        (gI μ x44 4 3).bind fun x45 =>
                        (f_X9_walksForRound μ x8 x45).bind fun x46 =>
                        some (x46, μ)
                    else
                      (f_X11_find μ a0 (3 : Int32)).bind fun x39 =>
                      some (x39.1, x39.2)
                else
                  (gP μ a0 12 2).bind fun x60 =>
                  (f_X3_countStill μ x60).bind fun x61 =>
                  some (x61, μ)
              else
                if p2 = (4 : Int32) then
                  (ins μ x8 [7]).bind fun x22 =>
                  if x22 = 0 then
                    if p2 = (5 : Int32) then
                      (ins μ x8 [10]).bind fun x26 =>
                      if x26 = 0 then
                        (f_X11_find μ a0 (3 : Int32)).bind fun x28 =>
                        some (x28.1, x28.2)
                      else
                        (cst μ x8 [10]).bind fun _ =>
                        (gP μ a0 12 2).bind fun x30 =>
                        (gI μ x30 4 3).bind fun x31 =>
                        (f_X9_walksForRound μ x8 x31).bind fun x32 =>
                        some (x32, μ)
                    else
                      (f_X11_find μ a0 (3 : Int32)).bind fun x25 =>
                      some (x25.1, x25.2)
                  else
                    (cst μ x8 [7]).bind fun _ =>
                    (f_X6_uncountedFeet μ x8).bind fun x34 =>
                    some (x34, μ)
                else
                  if p2 = (5 : Int32) then
                    (ins μ x8 [10]).bind fun x15 =>
                    if x15 = 0 then
                      (f_X11_find μ a0 (3 : Int32)).bind fun x17 =>
                      some (x17.1, x17.2)
                    else
                      (cst μ x8 [10]).bind fun _ =>
                      (gP μ a0 12 2).bind fun x19 =>
                      (gI μ x19 4 3).bind fun x20 =>
                      (f_X9_walksForRound μ x8 x20).bind fun x21 =>
                      some (x21, μ)
                  else
                    (f_X11_find μ a0 (3 : Int32)).bind fun x14 =>
                    some (x14.1, x14.2)
        else
          some ((-1 : Int32), μ)
  else none
def f_X11_shoe (μ : Mm) (a0 : Nat) (p1 : Int32) (p2 : Int32) : Option (Int32 × Mm) :=
  if tg μ a0 = 12 then
    (gP μ a0 12 2).bind fun x1 =>
    (f_X3_hasGuild μ x1 p1).bind fun x2 =>
    if x2 = 0 then
      some ((-1 : Int32), μ)
    else
      if p2 < (1 : Int32) then
        some ((-1 : Int32), μ)
      else
        if p2 ≤ (9 : Int32) then
          (gP μ a0 12 2).bind fun x6 =>
          (gP μ x6 4 1).bind fun x7 =>
          (gI μ x7 9 1).bind fun x8 =>
          if x8 ≤ 0 then
            (gP μ a0 12 2).bind fun x10 =>
            (gP μ x10 4 0).bind fun x11 =>
            (aP μ x11 24 p1).bind fun x12 =>
            (gG μ x12 0).bind fun x13 =>
            (gP μ a0 12 2).bind fun x14 =>
            (gP μ x14 4 0).bind fun x15 =>
            (aP μ x15 24 p1).bind fun x16 =>
            (pG μ x16 0 p2).bind fun x17 =>
            some (x13, x17)
          else
            some ((-4 : Int32), μ)
        else
          some ((-1 : Int32), μ)
  else none
def f_X11_walk (μ : Mm) (a0 : Nat) (p1 : Int32) : Option (Int32 × Mm) :=
  if tg μ a0 = 12 then
    (gP μ a0 12 2).bind fun x1 =>
    (f_X3_hasGuild μ x1 p1).bind fun x2 =>
    if x2 = 0 then
      some ((-1 : Int32), μ)
    else
      (gP μ a0 12 2).bind fun x4 =>
      (f_X3_hasRoomFor μ x4 (1 : Int32)).bind fun x5 =>
      if x5 = 0 then
        some ((-2 : Int32), μ)
      else
        (gP μ a0 12 2).bind fun x7 =>
        (f_X3_addStep μ x7 p1).bind fun x8 =>
        (gP x8 a0 12 2).bind fun x9 =>
        (gI x8 x9 4 5).bind fun x10 =>
        some (x10, x8)
  else none
def f_X11_floor (μ : Mm) (a0 : Nat) (p1 : Int32) : Option (Int32 × Mm) :=
  if tg μ a0 = 12 then
    if p1 < 0 then
      some ((-1 : Int32), μ)
    else
      if p1 ≤ (2 : Int32) then
        (gP μ a0 12 2).bind fun x3 =>
        (f_X3_isEmpty μ x3).bind fun x4 =>
        if x4 = 0 then
          (gP μ a0 12 2).bind fun x6 =>
          (gI μ x6 4 7).bind fun x7 =>
          if x7 = p1 then
            some ((-4 : Int32), μ)
          else
            (gP μ a0 12 2).bind fun x9 =>
            (f_X3_hasRoomFor μ x9 (1 : Int32)).bind fun x10 =>
            if x10 = 0 then
              some ((-2 : Int32), μ)
            else
              (gP μ a0 12 2).bind fun x12 =>
              (gI μ x12 4 7).bind fun x13 =>
              (gP μ a0 12 2).bind fun x14 =>
              (f_X3_addStep μ x14 ((6 : Int32) + p1)).bind fun x15 =>
              some (x13, x15)
        else
          some ((-4 : Int32), μ)
      else
        some ((-1 : Int32), μ)
  else none
def f_X11_undo (μ : Mm) (a0 : Nat) (p1 : Int32) : Option (Int32 × Mm) :=
  if tg μ a0 = 12 then
    if p1 < 0 then
      some ((-1 : Int32), μ)
    else
      (gP μ a0 12 2).bind fun x2 =>
      (gP μ x2 4 1).bind fun x3 =>
      (gI μ x3 9 1).bind fun x4 =>
      if p1 ≤ x4 then
        (gP μ a0 12 2).bind fun x6 =>
        (gP μ x6 4 1).bind fun x7 =>
        (gI μ x7 9 1).bind fun x8 =>
        (gP μ a0 12 2).bind fun x9 =>
        (gP μ x9 4 1).bind fun x10 =>
        (pI μ x10 9 1 p1).bind fun x11 =>
        (gP x11 a0 12 2).bind fun x12 =>
        (f_X3_replay x11 x12).bind fun x13 =>
        some ((x8 - p1), x13)
      else
        some ((-1 : Int32), μ)
  else none
def f_X11_keep (μ : Mm) (a0 : Nat) (p1 : Int32) : Option (Int32 × Mm) :=
  if tg μ a0 = 12 then
    (gP μ a0 12 3).bind fun x1 =>
    (f_X11_has μ x1 p1).bind fun x2 =>
    if x2 = 0 then
      some ((-1 : Int32), μ)
    else
      (gP μ a0 12 2).bind fun x4 =>
      (f_X3_isEmpty μ x4).bind fun x5 =>
      if x5 = 0 then
        (gP μ a0 12 2).bind fun x7 =>
        (gP μ a0 12 4).bind fun x8 =>
        (aP μ x8 26 p1).bind fun x9 =>
        (f_X3_tellFeet μ x7 x9).bind fun x10 =>
        (gP x10 a0 12 3).bind fun x11 =>
        (aP x10 x11 25 p1).bind fun x12 =>
        (gP x10 a0 12 2).bind fun x13 =>
        (gP x10 x13 4 1).bind fun x14 =>
        (f_X8_takeFrom x10 x12 x14).bind fun x15 =>
        (gP x15 a0 12 2).bind fun x16 =>
        (gP x15 x16 4 1).bind fun x17 =>
        (gI x15 x17 9 1).bind fun x18 =>
        some (x18, x15)
      else
        some ((-4 : Int32), μ)
  else none
def f_X11_on (μ : Mm) (a0 : Nat) (p1 : Int32) : Option (Int32 × Mm) :=
  if tg μ a0 = 12 then
    (gP μ a0 12 3).bind fun x1 =>
    (f_X11_refuse μ a0 x1 p1).bind fun x2 =>
    if x2.1 = 0 then
      (gP x2.2 a0 12 2).bind fun x4 =>
      (gP x2.2 a0 12 4).bind fun x5 =>
      (aP x2.2 x5 26 p1).bind fun x6 =>
      (f_X3_takeFeet x2.2 x4 x6).bind fun x7 =>
      (gP x7 a0 12 2).bind fun x8 =>
      (gP x7 x8 4 1).bind fun x9 =>
      (gP x7 a0 12 3).bind fun x10 =>
      (aP x7 x10 25 p1).bind fun x11 =>
      (f_X8_takeFrom x7 x9 x11).bind fun x12 =>
      (gP x12 a0 12 2).bind fun x13 =>
      (f_X3_replay x12 x13).bind fun x14 =>
      (gP x14 a0 12 2).bind fun x15 =>
      (gP x14 x15 4 1).bind fun x16 =>
      (gI x14 x16 9 1).bind fun x17 =>
      some (x17, x14)
    else
      some (x2.1, x2.2)
  else none
def f_X11_hour (μ : Mm) (a0 : Nat) : Option (Int32 × Mm) :=
  if tg μ a0 = 12 then
    (gP μ a0 12 2).bind fun x1 =>
    (f_X3_isEmpty μ x1).bind fun x2 =>
    if x2 = 0 then
      (gP μ a0 12 2).bind fun x4 =>
      (gI μ x4 4 6).bind fun x5 =>
      (pI μ a0 12 11 x5).bind fun x6 =>
      (gP x6 a0 12 2).bind fun x7 =>
      (gP x6 a0 12 2).bind fun x8 =>
      (gI x6 x8 4 5).bind fun x9 =>
      (f_X3_byTeeth x6 x7 ((12 : Int32) * x9)).bind fun x10 =>
      some (x10, x6)
    else
      some ((-4 : Int32), μ)
  else none
def f_X11_due (μ : Mm) (a0 : Nat) : Option (Int32 × Mm) :=
  if tg μ a0 = 12 then
    (gP μ a0 12 2).bind fun x1 =>
    (gP μ a0 12 2).bind fun x2 =>
    (gI μ x2 4 5).bind fun x3 =>
    (f_X3_hasRentAt μ x1 x3).bind fun x4 =>
    if x4 = 0 then
      (pI μ a0 12 11 (0 : Int32)).bind fun x6 =>
      (gP x6 a0 12 2).bind fun x7 =>
      (gI x6 x7 4 8).bind fun x8 =>
      some (x8, x6)
    else
      (pI μ a0 12 11 (1 : Int32)).bind fun x9 =>
      (gP x9 a0 12 2).bind fun x10 =>
      (gI x9 x10 4 8).bind fun x11 =>
      some (x11, x9)
  else none
def lp_X11_namesGuilds_2 : Nat → Nat → Nat → Int32 → Mm → Option Nat
  | 0, _, _, _, _ => none
  | n+1, v0, v1, v2, μ =>
    (gI μ v1 9 1).bind fun x1 =>
    if x1 ≤ v2 then
      some 1
    else
      (gP μ v0 12 2).bind fun x3 =>
      (gP μ v1 9 0).bind fun x4 =>
      (aI μ x4 21 v2).bind fun x5 =>
      (f_X3_hasGuild μ x3 x5).bind fun x6 =>
      if x6 = 0 then
        some 0
      else
        lp_X11_namesGuilds_2 n v0 v1 (v2 + 1) μ
def f_X11_namesGuilds (μ : Mm) (a0 : Nat) (p1 : Nat) : Option Int32 :=
  if tg μ a0 = 12 then
    (lp_X11_namesGuilds_2 BIG a0 p1 (0 : Int32) μ).bind fun x8 =>
    if x8 = 0 then
      some (0 : Int32)
    else
      some (1 : Int32)
  else none
def lp_X11_after_76 : Nat → Nat → Int32 → Int32 → Int32 → Int32 → Mm → Option (Int32 × Int32)
  | 0, _, _, _, _, _, _ => none
  | n+1, v0, v1, v2, v3, v4, μ =>
    (gP μ v0 12 0).bind fun x17 =>
    (aP μ x17 25 v1).bind fun x18 =>
    (gI μ x18 9 1).bind fun x19 =>
    if x19 ≤ v4 then
      some (v2, v3)
    else
      (gP μ v0 12 2).bind fun x21 =>
      (gP μ v0 12 2).bind fun x22 =>
      (gP μ v0 12 0).bind fun x23 =>
      (aP μ x23 25 v1).bind fun x24 =>
      (gP μ x24 9 0).bind fun x25 =>
      (aI μ x25 21 v4).bind fun x26 =>
      (f_X3_treadNow μ x22 x26).bind fun x27 =>
      (f_X3_wrap μ x21 (v2 + x27)).bind fun x28 =>
      (gP μ v0 12 2).bind fun x29 =>
      (f_X3_hasRentAt μ x29 x28).bind fun x30 =>
      if x30 = 0 then
        lp_X11_after_76 n v0 v1 x28 (v3 + (0 : Int32)) (v4 + 1) μ
      else
        lp_X11_after_76 n v0 v1 x28 (v3 + (1 : Int32)) (v4 + 1) μ
def f_X11_after (μ : Mm) (a0 : Nat) (p1 : Int32) : Option (Int32 × Mm) :=
  if tg μ a0 = 12 then
    (gP μ a0 12 0).bind fun x1 =>
    (f_X11_has μ x1 p1).bind fun x2 =>
    if x2 = 0 then
      some ((-1 : Int32), μ)
    else
      (gP μ a0 12 2).bind fun x4 =>
      (f_X3_isEmpty μ x4).bind fun x5 =>
      if x5 = 0 then
        (gP μ a0 12 0).bind fun x7 =>
        (aP μ x7 25 p1).bind fun x8 =>
        (f_X8_isThere μ x8).bind fun x9 =>
        if x9 = 0 then
          (f_X11_find μ a0 (1 : Int32)).bind fun x35 =>
          some (x35.1, x35.2)
        else
          (gP μ a0 12 0).bind fun x11 =>
          (aP μ x11 25 p1).bind fun x12 =>
          (f_X11_namesGuilds μ a0 x12).bind fun x13 =>
          if x13 = 0 then
            (f_X11_find μ a0 (3 : Int32)).bind fun x34 =>
            some (x34.1, x34.2)
          else
            (gP μ a0 12 2).bind fun x15 =>
            (gI μ x15 4 5).bind fun x16 =>
            (lp_X11_after_76 BIG a0 p1 x16 (0 : Int32) (0 : Int32) μ).bind fun x32 =>
            (pI μ a0 12 11 x32.2).bind fun x33 =>
            some (x32.1, x33)
      else
        some ((-4 : Int32), μ)
  else none
def f_X11_tellRatio (μ : Mm) (a0 : Nat) (p1 : Int64) (p3 : Int64) : Option (Int32 × Mm) :=
  if tg μ a0 = 12 then
    (f_X11_greatestDivisor μ p1 p3).bind fun x1 =>
    if 0 ≤ (lg_cmp x1 (1 : Int64)) then
      if x1 = 0 then none else
      (pL μ a0 12 12 (p1 / x1)).bind fun x4 =>
      if x1 = 0 then none else
      (pL x4 a0 12 13 (p3 / x1)).bind fun x6 =>
      some ((1 : Int32), x6)
    else
      some ((1 : Int32), μ)
  else none
def f_X11_pace (μ : Mm) (a0 : Nat) : Option (Int32 × Mm) :=
  if tg μ a0 = 12 then
    (gP μ a0 12 2).bind fun x1 =>
    (gI μ x1 4 9).bind fun x2 =>
    if x2 = 0 then
      (f_X11_find μ a0 (4 : Int32)).bind fun x9 =>
      some (x9.1, x9.2)
    else
      (gP μ a0 12 2).bind fun x4 =>
      (gI μ x4 4 10).bind fun x5 =>
      (gP μ a0 12 2).bind fun x6 =>
      (gI μ x6 4 9).bind fun x7 =>
      (f_X11_tellRatio μ a0 x5.toInt64 x7.toInt64).bind fun x8 =>
      some (x8.1, x8.2)
  else none
def f_X11_order (μ : Mm) (a0 : Nat) (p1 : Int32) (p2 : Int32) (p3 : Int32) : Option (Int32 × Mm) :=
  if tg μ a0 = 12 then
    (gP μ a0 12 2).bind fun x1 =>
    (f_X3_hasGuild μ x1 p1).bind fun x2 =>
    if x2 = 0 then
      some ((-1 : Int32), μ)
    else
      (gP μ a0 12 2).bind fun x4 =>
      (f_X3_hasTooth μ x4 p2).bind fun x5 =>
      if x5 = 0 then
        some ((-1 : Int32), μ)
      else
        (gP μ a0 12 0).bind fun x7 =>
        (f_X11_has μ x7 p3).bind fun x8 =>
        if x8 = 0 then
          some ((-1 : Int32), μ)
        else
          (gP μ a0 12 6).bind fun x10 =>
          (gP μ a0 12 2).bind fun x11 =>
          (f_X7_look μ x10 x11).bind fun x12 =>
          (gP x12 a0 12 6).bind fun x13 =>
          (f_X7_weigh x12 x13 p1 p2).bind fun x14 =>
          (gP x14 a0 12 6).bind fun x15 =>
          (f_X7_fewestWrongs x14 x15).bind fun x16 =>
          if x16 ≤ 0 then
            (gP x14 a0 12 6).bind fun x18 =>
            (gP x14 a0 12 0).bind fun x19 =>
            (aP x14 x19 25 p3).bind fun x20 =>
            (f_X7_tellFirstOrder x14 x18 x20).bind fun x21 =>
            (gP x21 a0 12 0).bind fun x22 =>
            (aP x21 x22 25 p3).bind fun x23 =>
            (f_X8_placeOf x21 x23 p1).bind fun x24 =>
            some (x24, x21)
          else
            some ((-9 : Int32), x14)
  else none
def f_X11_quiet (μ : Mm) (a0 : Nat) : Option (Int32 × Mm) :=
  if tg μ a0 = 12 then
    (gP μ a0 12 2).bind fun x1 =>
    (f_X3_isEmpty μ x1).bind fun x2 =>
    if x2 = 0 then
      (gP μ a0 12 6).bind fun x4 =>
      (gP μ a0 12 2).bind fun x5 =>
      (f_X7_look μ x4 x5).bind fun x6 =>
      (gP x6 a0 12 6).bind fun x7 =>
      (f_X7_countQuiet x6 x7).bind fun x8 =>
      (gP x8.2 a0 12 6).bind fun x9 =>
      (f_X7_lastInQuiet x8.2 x9).bind fun x10 =>
      (pI x8.2 a0 12 11 x10).bind fun x11 =>
      (f_X11_tellRatio x11 a0 x8.1.toInt64 (1 : Int64)).bind fun x12 =>
      some (x12.1, x12.2)
    else
      some ((-4 : Int32), μ)
  else none
def lp_X11_cheap_51 : Nat → Nat → Int32 → Mm → Option Mm
  | 0, _, _, _ => none
  | n+1, v0, v1, μ =>
    (gP μ v0 12 7).bind fun x13 =>
    (gI μ x13 9 1).bind fun x14 =>
    if x14 ≤ v1 then
      some μ
    else
      (gI μ v0 12 11).bind fun x16 =>
      (gP μ v0 12 7).bind fun x17 =>
      (gP μ x17 9 0).bind fun x18 =>
      (aI μ x18 21 v1).bind fun x19 =>
      (pI μ v0 12 11 (((6 : Int32) * x16) + x19)).bind fun x20 =>
      lp_X11_cheap_51 n v0 (v1 + 1) x20
def f_X11_cheap (μ : Mm) (a0 : Nat) : Option (Int32 × Mm) :=
  if tg μ a0 = 12 then
    (gP μ a0 12 2).bind fun x1 =>
    (f_X3_isEmpty μ x1).bind fun x2 =>
    if x2 = 0 then
      (gP μ a0 12 6).bind fun x4 =>
      (gP μ a0 12 2).bind fun x5 =>
      (f_X7_look μ x4 x5).bind fun x6 =>
      (gP x6 a0 12 6).bind fun x7 =>
      (f_X7_weigh x6 x7 (-1 : Int32) (0 : Int32)).bind fun x8 =>
      (gP x8 a0 12 6).bind fun x9 =>
      (gP x8 a0 12 7).bind fun x10 =>
      (f_X7_tellFirstOrder x8 x9 x10).bind fun x11 =>
      (pI x11 a0 12 11 (0 : Int32)).bind fun x12 =>
      (lp_X11_cheap_51 BIG a0 (0 : Int32) x12).bind fun x21 =>
      (gP x21 a0 12 6).bind fun x22 =>
      (f_X7_fewestWrongs x21 x22).bind fun x23 =>
      some (x23, x21)
    else
      some ((-4 : Int32), μ)
  else none
def f_X11_fewest (μ : Mm) (a0 : Nat) (p1 : Int32) : Option (Int32 × Mm) :=
  if tg μ a0 = 12 then
    (gP μ a0 12 2).bind fun x1 =>
    (f_X3_hasTooth μ x1 p1).bind fun x2 =>
    if x2 = 0 then
      some ((-1 : Int32), μ)
    else
      (gP μ a0 12 2).bind fun x4 =>
      (f_X3_wayTo μ x4 p1).bind fun x5 =>
      (gP μ a0 12 8).bind fun x6 =>
      (gP μ a0 12 2).bind fun x7 =>
      (f_X10_findCosts μ x6 x7 (0 : Int32)).bind fun x8 =>
      (gP x8 a0 12 8).bind fun x9 =>
      (f_X10_costOf x8 x9 x5).bind fun x10 =>
      if x10 = (-9 : Int32) then
        some (x10, x8)
      else
        (gP x8 a0 12 8).bind fun x12 =>
        (gP x8 a0 12 2).bind fun x13 =>
        (f_X10_firstWalker x8 x12 x13 x5).bind fun x14 =>
        (pI x8 a0 12 11 x14).bind fun x15 =>
        some (x10, x15)
  else none
def f_X11_feet (μ : Mm) (a0 : Nat) (p1 : Int32) : Option (Int32 × Mm) :=
  if tg μ a0 = 12 then
    (gP μ a0 12 2).bind fun x1 =>
    (f_X3_hasTooth μ x1 p1).bind fun x2 =>
    if x2 = 0 then
      some ((-1 : Int32), μ)
    else
      (gP μ a0 12 8).bind fun x4 =>
      (gP μ a0 12 2).bind fun x5 =>
      (f_X10_findCosts μ x4 x5 (1 : Int32)).bind fun x6 =>
      (gP x6 a0 12 8).bind fun x7 =>
      (gP x6 a0 12 2).bind fun x8 =>
      (f_X3_wayTo x6 x8 p1).bind fun x9 =>
      (f_X10_costOf x6 x7 x9).bind fun x10 =>
      some (x10, x6)
  else none
def lp_X11_never_40 : Nat → Nat → Int32 → Int32 → Int32 → Mm → Option (Int32 × Mm)
  | 0, _, _, _, _, _ => none
  | n+1, v0, v1, v2, v3, μ =>
    if v3 < 0 then
      some (v2, μ)
    else
      (gP μ v0 12 2).bind fun x10 =>
      (gI μ x10 4 5).bind fun x11 =>
      (f_X11_remainder μ (v3 - x11) v1).bind fun x12 =>
      if x12 = 0 then
        lp_X11_never_40 n v0 v1 v2 (v3 + (-1)) μ
      else
        (pI μ v0 12 11 v3).bind fun x14 =>
        lp_X11_never_40 n v0 v1 (v2 + 1) (v3 + (-1)) x14
def f_X11_never (μ : Mm) (a0 : Nat) : Option (Int32 × Mm) :=
  if tg μ a0 = 12 then
    (gP μ a0 12 2).bind fun x1 =>
    (f_X3_isEmpty μ x1).bind fun x2 =>
    if x2 = 0 then
      (gP μ a0 12 2).bind fun x4 =>
      (f_X3_stride μ x4 (-1 : Int32)).bind fun x5 =>
      (pI μ a0 12 11 (-9 : Int32)).bind fun x6 =>
      (gP x6 a0 12 2).bind fun x7 =>
      (gI x6 x7 4 3).bind fun x8 =>
      (lp_X11_never_40 BIG a0 x5 (0 : Int32) (x8 - (1 : Int32)) x6).bind fun x15 =>
      some (x15.1, x15.2)
    else
      some ((-4 : Int32), μ)
  else none
def lp_X11_keyed_26 : Nat → Nat → Int32 → Int32 → Int32 → Mm → Option Int32
  | 0, _, _, _, _, _ => none
  | n+1, v0, v1, v2, v3, μ =>
    (gP μ v0 12 2).bind fun x6 =>
    (gI μ x6 4 2).bind fun x7 =>
    if x7 ≤ v3 then
      some v2
    else
      (gP μ v0 12 2).bind fun x9 =>
      (f_X3_stride μ x9 v3).bind fun x10 =>
      if x10 = v1 then
        lp_X11_keyed_26 n v0 v1 (v2 ||| (0 : Int32)) (v3 + 1) μ
      else
        lp_X11_keyed_26 n v0 v1 (v2 ||| ((1 : Int32) <<< (v3 &&& 31))) (v3 + 1) μ
def f_X11_keyed (μ : Mm) (a0 : Nat) : Option Int32 :=
  if tg μ a0 = 12 then
    (gP μ a0 12 2).bind fun x1 =>
    (f_X3_isEmpty μ x1).bind fun x2 =>
    if x2 = 0 then
      (gP μ a0 12 2).bind fun x4 =>
      (f_X3_stride μ x4 (-1 : Int32)).bind fun x5 =>
      (lp_X11_keyed_26 BIG a0 x5 (0 : Int32) (0 : Int32) μ).bind fun x12 =>
      some x12
    else
      some (-4 : Int32)
  else none
def f_X11_fits (μ : Mm) (a0 : Nat) (p1 : Int32) : Option (Int32 × Mm) :=
  if tg μ a0 = 12 then
    (gP μ a0 12 2).bind fun x1 =>
    (f_X3_hasTooth μ x1 p1).bind fun x2 =>
    if x2 = 0 then
      some ((-1 : Int32), μ)
    else
      (gP μ a0 12 6).bind fun x4 =>
      (gP μ a0 12 2).bind fun x5 =>
      (f_X7_look μ x4 x5).bind fun x6 =>
      (gP x6 a0 12 6).bind fun x7 =>
      (f_X7_firstFit x6 x7 p1).bind fun x8 =>
      (pI x6 a0 12 11 x8).bind fun x9 =>
      (gP x9 a0 12 6).bind fun x10 =>
      (f_X7_countFits x9 x10 p1 (0 : Int32)).bind fun x11 =>
      (f_X11_tellRatio x9 a0 x11.toInt64 (1 : Int64)).bind fun x12 =>
      some (x12.1, x12.2)
  else none
def f_X11_refuseUnfit (μ : Mm) (a0 : Nat) (p1 : Int32) : Option (Int32 × Mm) :=
  if tg μ a0 = 12 then
    (gP μ a0 12 2).bind fun x1 =>
    (f_X3_hasTooth μ x1 p1).bind fun x2 =>
    if x2 = 0 then
      some ((-1 : Int32), μ)
    else
      (gP μ a0 12 6).bind fun x4 =>
      (gP μ a0 12 2).bind fun x5 =>
      (f_X7_look μ x4 x5).bind fun x6 =>
      (gP x6 a0 12 6).bind fun x7 =>
      (f_X7_countFits x6 x7 p1 (0 : Int32)).bind fun x8 =>
      if x8 ≤ 0 then
        (f_X11_find x6 a0 (4 : Int32)).bind fun x10 =>
        some (x10.1, x10.2)
      else
        some ((0 : Int32), x6)
  else none
def lp_X11_sure_31 : Nat → Nat → Int32 → Int32 → Int32 → Int32 → Int32 → Mm → Option (Int32 × Int32)
  | 0, _, _, _, _, _, _, _ => none
  | n+1, v0, v1, v3, v4, v5, v6, μ =>
    (gP μ v0 12 2).bind fun x5 =>
    (gI μ x5 4 2).bind fun x6 =>
    if x6 ≤ v6 then
      some (v4, v5)
    else
      (gP μ v0 12 6).bind fun x8 =>
      (f_X7_countFits μ x8 v1 ((1 : Int32) <<< (v6 &&& 31))).bind fun x9 =>
      ((
        if x9 = v3 then
          some ((1 : Int32) <<< (v6 &&& 31))
        else
          some (0 : Int32)
       : Option Int32)).bind fun x10 =>
      if x9 = 0 then
        lp_X11_sure_31 n v0 v1 v3 (v4 ||| x10) (v5 ||| ((1 : Int32) <<< (v6 &&& 31))) (v6 + 1) μ
      else
        lp_X11_sure_31 n v0 v1 v3 (v4 ||| x10) (v5 ||| (0 : Int32)) (v6 + 1) μ
def f_X11_sure (μ : Mm) (a0 : Nat) (p1 : Int32) : Option (Int32 × Mm) :=
  if tg μ a0 = 12 then
    (f_X11_refuseUnfit μ a0 p1).bind fun x1 =>
    if x1.1 = 0 then
      (gP x1.2 a0 12 6).bind fun x3 =>
      (f_X7_countFits x1.2 x3 p1 (0 : Int32)).bind fun x4 =>
      (lp_X11_sure_31 BIG a0 p1 x4 (0 : Int32) (0 : Int32) (0 : Int32) x1.2).bind fun x13 =>
      (pI x1.2 a0 12 11 x13.2).bind fun x14 =>
      some (x13.1, x14)
    else
      some (x1.1, x1.2)
  else none
def lp_X11_ask_33 : Nat → Nat → Int32 → Int32 → Int32 → Int32 → Int32 → Mm → Option (Int32 × Int32)
  | 0, _, _, _, _, _, _, _ => none
  | n+1, v0, v1, v3, v4, v5, v6, μ =>
    (gP μ v0 12 2).bind fun x5 =>
    (gI μ x5 4 2).bind fun x6 =>
    if x6 ≤ v6 then
      some (v4, v5)
    else
      (gP μ v0 12 6).bind fun x8 =>
      (f_X7_countFits μ x8 v1 ((1 : Int32) <<< (v6 &&& 31))).bind fun x9 =>
      if v5 ≤ (if x9 < (v3 - x9) then (v3 - x9) else x9) then
        lp_X11_ask_33 n v0 v1 v3 v4 v5 (v6 + 1) μ
      else
        lp_X11_ask_33 n v0 v1 v3 v6 (if x9 < (v3 - x9) then (v3 - x9) else x9) (v6 + 1) μ
def f_X11_ask (μ : Mm) (a0 : Nat) (p1 : Int32) : Option (Int32 × Mm) :=
  if tg μ a0 = 12 then
    (f_X11_refuseUnfit μ a0 p1).bind fun x1 =>
    if x1.1 = 0 then
      (gP x1.2 a0 12 6).bind fun x3 =>
      (f_X7_countFits x1.2 x3 p1 (0 : Int32)).bind fun x4 =>
      (lp_X11_ask_33 BIG a0 p1 x4 (0 : Int32) (x4 + (1 : Int32)) (0 : Int32) x1.2).bind fun x11 =>
      (pI x1.2 a0 12 11 x11.2).bind fun x12 =>
      some (x11.1, x12)
    else
      some (x1.1, x1.2)
  else none
def f_X11_noon (μ : Mm) (a0 : Nat) (p1 : Int32) : Option Int32 :=
  if tg μ a0 = 12 then
    (gP μ a0 12 2).bind fun x1 =>
    (f_X3_hasGuild μ x1 p1).bind fun x2 =>
    if x2 = 0 then
      some (-1 : Int32)
    else
      (gP μ a0 12 2).bind fun x4 =>
      (gP μ a0 12 2).bind fun x5 =>
      (f_X3_treadNow μ x5 p1).bind fun x6 =>
      (f_X3_walksToNoon μ x4 x6).bind fun x7 =>
      some x7
  else none
def lp_X11_both_79 : Nat → Nat → Int32 → Int32 → Int32 → Int32 → Int32 → Int32 → Mm → Option (Nat × Int32)
  | 0, _, _, _, _, _, _, _, _ => none
  | n+1, v0, v2, v3, v4, v5, v6, v7, μ =>
    if v2 ≤ v7 then
      some (1, (0 : Int32))
    else
      if v2 = 0 then none else
      if ((v3 + ((v5 + (v7 * v6)) * v4)) - (v3 + ((v5 + (v7 * v6)) * v4)) / v2 * v2) = 0 then
        some (0, (v5 + (v7 * v6)))
      else
        lp_X11_both_79 n v0 v2 v3 v4 v5 v6 (v7 + 1) μ
def f_X11_both (μ : Mm) (a0 : Nat) (p1 : Int32) (p2 : Int32) (p3 : Int32) : Option (Int32 × Mm) :=
  if tg μ a0 = 12 then
    (gP μ a0 12 2).bind fun x1 =>
    (f_X3_hasGuild μ x1 p1).bind fun x2 =>
    if x2 = 0 then
      some ((-1 : Int32), μ)
    else
      if p2 < (12 : Int32) then
        some ((-1 : Int32), μ)
      else
        if (60 : Int32) < p2 then
          some ((-1 : Int32), μ)
        else
          if p3 < 0 then
            some ((-1 : Int32), μ)
          else
            if p3 < p2 then
              (gP μ a0 12 2).bind fun x8 =>
              (f_X3_treadNow μ x8 p1).bind fun x9 =>
              (gP μ a0 12 2).bind fun x10 =>
              (f_X3_walksToNoon μ x10 x9).bind fun x11 =>
              if x11 = (-9 : Int32) then
                some ((-9 : Int32), μ)
              else
                (gP μ a0 12 2).bind fun x13 =>
                (f_X3_walksToReturn μ x13 x9).bind fun x14 =>
                (lp_X11_both_79 BIG a0 p2 p3 x9 x11 x14 (0 : Int32) μ).bind fun x18 =>
                if x18.1 = 0 then
                  (gP μ a0 12 2).bind fun x19 =>
                  (gP μ a0 12 2).bind fun x20 =>
                  (gI μ x20 4 5).bind fun x21 =>
                  (f_X3_byTeeth μ x19 (x21 + (x18.2 * x9))).bind fun x22 =>
                  (pI μ a0 12 11 x22).bind fun x23 =>
                  some (x18.2, x23)
                else
                  some ((-9 : Int32), μ)
            else
              some ((-1 : Int32), μ)
  else none
def lp_X11_rent_24 : Nat → Nat → Int32 → Int32 → Mm → Option (Nat × Int32)
  | 0, _, _, _, _ => none
  | n+1, v0, v2, v3, μ =>
    (gP μ v0 12 2).bind fun x6 =>
    (gI μ x6 4 3).bind fun x7 =>
    if x7 < v3 then
      some (1, (0 : Int32))
    else
      (gP μ v0 12 2).bind fun x9 =>
      (gP μ v0 12 2).bind fun x10 =>
      (gP μ v0 12 2).bind fun x11 =>
      (gI μ x11 4 5).bind fun x12 =>
      (f_X3_wrap μ x10 (x12 + (v3 * v2))).bind fun x13 =>
      (f_X3_hasRentAt μ x9 x13).bind fun x14 =>
      if x14 = 0 then
        lp_X11_rent_24 n v0 v2 (v3 + 1) μ
      else
        some (0, v3)
def f_X11_rent (μ : Mm) (a0 : Nat) (p1 : Int32) : Option (Int32 × Mm) :=
  if tg μ a0 = 12 then
    (gP μ a0 12 2).bind fun x1 =>
    (f_X3_hasGuild μ x1 p1).bind fun x2 =>
    if x2 = 0 then
      some ((-1 : Int32), μ)
    else
      (gP μ a0 12 2).bind fun x4 =>
      (f_X3_treadNow μ x4 p1).bind fun x5 =>
      (lp_X11_rent_24 BIG a0 x5 (1 : Int32) μ).bind fun x16 =>
      if x16.1 = 0 then
        (pI μ a0 12 11 (x16.2 * x5)).bind fun x17 =>
        some (x16.2, x17)
      else
        some ((-9 : Int32), μ)
  else none
def lp_X11_odds_40 : Nat → Nat → Int32 → Int32 → Int64 → Int32 → Mm → Option Int64
  | 0, _, _, _, _, _, _ => none
  | n+1, v0, v1, v2, v3, v5, μ =>
    if v2 ≤ v5 then
      some v3
    else
      (gP μ v0 12 2).bind fun x10 =>
      (gI μ x10 4 2).bind fun x11 =>
      lp_X11_odds_40 n v0 v1 v2 (v3 * x11.toInt64) (v5 + 1) μ
def f_X11_odds (μ : Mm) (a0 : Nat) (p1 : Int32) (p2 : Int32) : Option (Int32 × Mm) :=
  if tg μ a0 = 12 then
    (gP μ a0 12 2).bind fun x1 =>
    (f_X3_hasTooth μ x1 p1).bind fun x2 =>
    if x2 = 0 then
      some ((-1 : Int32), μ)
    else
      if p2 < 0 then
        some ((-1 : Int32), μ)
      else
        if p2 ≤ (10 : Int32) then
          (gP μ a0 12 8).bind fun x6 =>
          (gP μ a0 12 2).bind fun x7 =>
          (f_X10_countRows μ x6 x7 p2).bind fun x8 =>
          (lp_X11_odds_40 BIG a0 p1 p2 (1 : Int64) (0 : Int32) x8).bind fun x12 =>
          (gP x8 a0 12 8).bind fun x13 =>
          (gP x8 a0 12 2).bind fun x14 =>
          (f_X3_wayTo x8 x14 p1).bind fun x15 =>
          (f_X10_rowsOf x8 x13 x15).bind fun x16 =>
          (f_X11_tellRatio x8 a0 x16 x12).bind fun x17 =>
          some (x17.1, x17.2)
        else
          some ((-1 : Int32), μ)
  else none
def f_X11_stepOf (μ : Mm) (a0 : Nat) (p1 : Int32) : Option Int32 :=
  if tg μ a0 = 12 then
    if (p1 - p1 / (16 : Int32) * (16 : Int32)) = 0 then
      (gP μ a0 12 2).bind fun x5 =>
      (gI μ x5 4 7).bind fun x6 =>
      some ((6 : Int32) + ((x6 + (1 : Int32)) - (x6 + (1 : Int32)) / (3 : Int32) * (3 : Int32)))
    else
      (gP μ a0 12 2).bind fun x2 =>
      (gI μ x2 4 2).bind fun x3 =>
      (f_X11_remainder μ (p1 / (16 : Int32)) x3).bind fun x4 =>
      some x4
  else none
def lp_X11_lots_60 : Nat → Nat → Int32 → Int64 → Int32 → Mm → Option Mm
  | 0, _, _, _, _, _ => none
  | n+1, v0, v1, v3, v5, μ =>
    if v1 ≤ v5 then
      some μ
    else
      (gP μ v0 12 2).bind fun x12 =>
      (f_X11_stepOf μ v0 ((((48271 : Int64) * v3) - ((48271 : Int64) * v3) / (2147483647 : Int64) * (2147483647 : Int64)).toInt32)).bind fun x13 =>
      (f_X3_addStep μ x12 x13).bind fun x14 =>
      lp_X11_lots_60 n v0 v1 (((48271 : Int64) * v3) - ((48271 : Int64) * v3) / (2147483647 : Int64) * (2147483647 : Int64)) (v5 + 1) x14
def f_X11_lots (μ : Mm) (a0 : Nat) (p1 : Int32) (p2 : Int32) : Option (Int32 × Mm) :=
  if tg μ a0 = 12 then
    if p1 < (1 : Int32) then
      some ((-1 : Int32), μ)
    else
      if (30 : Int32) < p1 then
        some ((-1 : Int32), μ)
      else
        if p2 < (1 : Int32) then
          some ((-1 : Int32), μ)
        else
          if (lg_cmp p2.toInt64 (2147483647 : Int64)) < 0 then
            (gP μ a0 12 2).bind fun x5 =>
            (f_X3_isEmpty μ x5).bind fun x6 =>
            if x6 = 0 then
              (gP μ a0 12 2).bind fun x8 =>
              (f_X3_hasRoomFor μ x8 p1).bind fun x9 =>
              if x9 = 0 then
                some ((-2 : Int32), μ)
              else
                (lp_X11_lots_60 BIG a0 p1 p2.toInt64 (0 : Int32) μ).bind fun x15 =>
                (gP x15 a0 12 2).bind fun x16 =>
                (gI x15 x16 4 5).bind fun x17 =>
                some (x17, x15)
            else
              some ((-4 : Int32), μ)
          else
            some ((-1 : Int32), μ)
  else none
def f_X11_asked (μ : Mm) (a0 : Nat) : Option Int32 :=
  if tg μ a0 = 12 then
    (gI μ a0 12 11).bind fun x1 =>
    some x1
  else none
def f_X11_upper (μ : Mm) (a0 : Nat) : Option Int64 :=
  if tg μ a0 = 12 then
    (gL μ a0 12 12).bind fun x1 =>
    some x1
  else none
def f_X11_lower (μ : Mm) (a0 : Nat) : Option Int64 :=
  if tg μ a0 = 12 then
    (gL μ a0 12 13).bind fun x1 =>
    some x1
  else none
def lp_X11_countThere_4 : Nat → Nat → Int32 → Int32 → Mm → Option Int32
  | 0, _, _, _, _ => none
  | n+1, v0, v1, v2, μ =>
    if tg μ v0 = 25 then
    (zI μ v0).bind fun x1 =>
    if x1 ≤ v2 then
      some v1
    else
      (aP μ v0 25 v2).bind fun x3 =>
      (f_X8_isThere μ x3).bind fun x4 =>
      if x4 = 0 then
        lp_X11_countThere_4 n v0 (v1 + (0 : Int32)) (v2 + 1) μ
      else
        lp_X11_countThere_4 n v0 (v1 + (1 : Int32)) (v2 + 1) μ
    else none
def f_X11_countThere (μ : Mm) (p0 : Nat) : Option Int32 :=
  (lp_X11_countThere_4 BIG p0 (0 : Int32) (0 : Int32) μ).bind fun x6 =>
  some x6
def f_X11_count (μ : Mm) (a0 : Nat) (p1 : Int32) : Option Int32 :=
  if tg μ a0 = 12 then
    if p1 = (0 : Int32) then
      (gP μ a0 12 2).bind fun x2 =>
      (gI μ x2 4 2).bind fun x3 =>
      some x3
    else
      if p1 = (1 : Int32) then
        (gP μ a0 12 2).bind fun x5 =>
        (gI μ x5 4 3).bind fun x6 =>
        some x6
      else
        if p1 = (2 : Int32) then
          (gP μ a0 12 2).bind fun x8 =>
          (gI μ x8 4 5).bind fun x9 =>
          some x9
        else
          if p1 = (3 : Int32) then
            (gP μ a0 12 2).bind fun x11 =>
            (gI μ x11 4 6).bind fun x12 =>
            some x12
          else
            if p1 = (4 : Int32) then
              (gP μ a0 12 2).bind fun x14 =>
              (gP μ x14 4 1).bind fun x15 =>
              (gI μ x15 9 1).bind fun x16 =>
              some x16
            else
              if p1 = (5 : Int32) then
                (gP μ a0 12 2).bind fun x18 =>
                (gI μ x18 4 7).bind fun x19 =>
                some x19
              else
                if p1 = (6 : Int32) then
                  (gP μ a0 12 2).bind fun x21 =>
                  (gI μ x21 4 4).bind fun x22 =>
                  some x22
                else
                  if p1 = (7 : Int32) then
                    (gP μ a0 12 2).bind fun x24 =>
                    (f_X3_countHeavy μ x24).bind fun x25 =>
                    some x25
                  else
                    if p1 = (8 : Int32) then
                      (gP μ a0 12 0).bind fun x27 =>
                      (f_X11_countThere μ x27).bind fun x28 =>
                      some x28
                    else
                      if p1 = (9 : Int32) then
                        (gP μ a0 12 1).bind fun x30 =>
                        (f_X11_countThere μ x30).bind fun x31 =>
                        some x31
                      else
                        if p1 = (10 : Int32) then
                          (gP μ a0 12 3).bind fun x33 =>
                          (f_X11_countThere μ x33).bind fun x34 =>
                          some x34
                        else
                          some (-1 : Int32)
  else none
def f_X11_finding (μ : Mm) (a0 : Nat) : Option Int32 :=
  if tg μ a0 = 12 then
    (gI μ a0 12 10).bind fun x1 =>
    some x1
  else none
def f_X11_findings (μ : Mm) (a0 : Nat) (p1 : Int32) : Option Int32 :=
  if tg μ a0 = 12 then
    if p1 < (1 : Int32) then
      some (-1 : Int32)
    else
      if p1 ≤ (5 : Int32) then
        (gP μ a0 12 9).bind fun x3 =>
        (aI μ x3 21 p1).bind fun x4 =>
        some x4
      else
        some (-1 : Int32)
  else none
def lp_X11_digest_6 : Nat → Nat → Int64 → Int32 → Mm → Option Int64
  | 0, _, _, _, _ => none
  | n+1, v0, v1, v3, μ =>
    if (10 : Int32) < v3 then
      some v1
    else
      (f_X11_count μ v0 v3).bind fun x2 =>
      lp_X11_digest_6 n v0 (((31 : Int64) * v1) + x2.toInt64) (v3 + 1) μ
def lp_X11_digest_62 : Nat → Nat → Int64 → Int32 → Int32 → Mm → Option Int64
  | 0, _, _, _, _, _ => none
  | n+1, v0, v1, v3, v4, μ =>
    if (4 : Int32) < v4 then
      some v1
    else
      (gP μ v0 12 2).bind fun x10 =>
      (f_X3_detail μ x10 v3 v4).bind fun x11 =>
      lp_X11_digest_62 n v0 (((31 : Int64) * v1) + x11.toInt64) v3 (v4 + 1) μ
def lp_X11_digest_48 : Nat → Nat → Int64 → Int32 → Mm → Option Int64
  | 0, _, _, _, _ => none
  | n+1, v0, v1, v3, μ =>
    (gP μ v0 12 2).bind fun x6 =>
    (gI μ x6 4 2).bind fun x7 =>
    if x7 ≤ v3 then
      some v1
    else
      (lp_X11_digest_62 BIG v0 v1 v3 (0 : Int32) μ).bind fun x12 =>
      lp_X11_digest_48 n v0 x12 (v3 + 1) μ
def lp_X11_digest_100 : Nat → Nat → Int64 → Int32 → Mm → Option Int64
  | 0, _, _, _, _ => none
  | n+1, v0, v1, v3, μ =>
    if (3 : Int32) ≤ v3 then
      some v1
    else
      (gP μ v0 12 3).bind fun x15 =>
      (aP μ x15 25 v3).bind fun x16 =>
      (gI μ x16 9 1).bind fun x17 =>
      lp_X11_digest_100 n v0 (((31 : Int64) * v1) + x17.toInt64) (v3 + 1) μ
def lp_X11_digest_130 : Nat → Nat → Int64 → Int32 → Mm → Option Int64
  | 0, _, _, _, _ => none
  | n+1, v0, v1, v3, μ =>
    if (6 : Int32) ≤ v3 then
      some v1
    else
      (gP μ v0 12 0).bind fun x20 =>
      (aP μ x20 25 v3).bind fun x21 =>
      (f_X8_mixInto μ x21 v1).bind fun x22 =>
      lp_X11_digest_130 n v0 x22 (v3 + 1) μ
def lp_X11_digest_155 : Nat → Nat → Int64 → Int32 → Mm → Option Int64
  | 0, _, _, _, _ => none
  | n+1, v0, v1, v3, μ =>
    if (4 : Int32) ≤ v3 then
      some v1
    else
      (gP μ v0 12 1).bind fun x25 =>
      (aP μ x25 25 v3).bind fun x26 =>
      (f_X8_mixInto μ x26 v1).bind fun x27 =>
      lp_X11_digest_155 n v0 x27 (v3 + 1) μ
def f_X11_digest (μ : Mm) (a0 : Nat) : Option Int64 :=
  if tg μ a0 = 12 then
    (lp_X11_digest_6 BIG a0 (17 : Int64) (0 : Int32) μ).bind fun x3 =>
    (gP μ a0 12 2).bind fun x4 =>
    (gI μ x4 4 8).bind fun x5 =>
    (lp_X11_digest_48 BIG a0 (((31 : Int64) * x3) + x5.toInt64) (0 : Int32) μ).bind fun x13 =>
    (lp_X11_digest_100 BIG a0 x13 (0 : Int32) μ).bind fun x18 =>
    (lp_X11_digest_130 BIG a0 x18 (0 : Int32) μ).bind fun x23 =>
    (lp_X11_digest_155 BIG a0 x23 (0 : Int32) μ).bind fun x28 =>
    some x28
  else none
def lp_X12_init_212 : Nat → Nat → Int32 → Mm → Option Mm
  | 0, _, _, _ => none
  | n+1, v0, v1, μ =>
    if (6 : Int32) ≤ v1 then
      some μ
    else
      (gP μ v0 13 5).bind fun x53 =>
      (qI μ x53 21 v1 (-1 : Int32)).bind fun x54 =>
      lp_X12_init_212 n v0 (v1 + 1) x54
def lp_X12_init_233 : Nat → Nat → Int32 → Mm → Option Mm
  | 0, _, _, _ => none
  | n+1, v0, v1, μ =>
    if (4 : Int32) ≤ v1 then
      some μ
    else
      (gP μ v0 13 8).bind fun x57 =>
      (qI μ x57 21 v1 (-1 : Int32)).bind fun x58 =>
      lp_X12_init_233 n v0 (v1 + 1) x58
def f_X12_init (μ : Mm) (a0 : Nat) : Option Mm :=
  if tg μ a0 = 13 then
    (nA μ 21 6 (6 : Int32)).bind fun x1 =>
    (pP x1.2 a0 13 1 x1.1).bind fun x2 =>
    (pL x2 a0 13 4 (1 : Int64)).bind fun x3 =>
    (nA x3 21 6 (6 : Int32)).bind fun x4 =>
    (pP x4.2 a0 13 5 x4.1).bind fun x5 =>
    (nA x5 21 240 (240 : Int32)).bind fun x6 =>
    (pP x6.2 a0 13 6 x6.1).bind fun x7 =>
    (nA x7 21 40 (40 : Int32)).bind fun x8 =>
    (pP x8.2 a0 13 7 x8.1).bind fun x9 =>
    (nA x9 21 4 (4 : Int32)).bind fun x10 =>
    (pP x10.2 a0 13 8 x10.1).bind fun x11 =>
    (nA x11 20 240 (240 : Int32)).bind fun x12 =>
    (pP x12.2 a0 13 9 x12.1).bind fun x13 =>
    (nA x13 21 6 (6 : Int32)).bind fun x14 =>
    (pP x14.2 a0 13 14 x14.1).bind fun x15 =>
    (nA x15 21 6 (6 : Int32)).bind fun x16 =>
    (pP x16.2 a0 13 15 x16.1).bind fun x17 =>
    (nA x17 21 6 (6 : Int32)).bind fun x18 =>
    (pP x18.2 a0 13 21 x18.1).bind fun x19 =>
    (nA x19 21 6 (6 : Int32)).bind fun x20 =>
    (pP x20.2 a0 13 22 x20.1).bind fun x21 =>
    (nA x21 21 11 (11 : Int32)).bind fun x22 =>
    (pP x22.2 a0 13 23 x22.1).bind fun x23 =>
    (nA x23 21 11 (11 : Int32)).bind fun x24 =>
    (pP x24.2 a0 13 24 x24.1).bind fun x25 =>
    (nA x25 21 660 (660 : Int32)).bind fun x26 =>
    (pP x26.2 a0 13 26 x26.1).bind fun x27 =>
    (nA x27 23 3 (3 : Int32)).bind fun x28 =>
    (pP x28.2 a0 13 27 x28.1).bind fun x29 =>
    (nA x29 21 3 (3 : Int32)).bind fun x30 =>
    (pP x30.2 a0 13 28 x30.1).bind fun x31 =>
    (nA x31 21 18 (18 : Int32)).bind fun x32 =>
    (pP x32.2 a0 13 29 x32.1).bind fun x33 =>
    (nA x33 21 33 (33 : Int32)).bind fun x34 =>
    (pP x34.2 a0 13 30 x34.1).bind fun x35 =>
    (nA x35 21 1980 (1980 : Int32)).bind fun x36 =>
    (pP x36.2 a0 13 31 x36.1).bind fun x37 =>
    (nA x37 21 6 (6 : Int32)).bind fun x38 =>
    (pP x38.2 a0 13 32 x38.1).bind fun x39 =>
    (nA x39 21 6 (6 : Int32)).bind fun x40 =>
    (pP x40.2 a0 13 33 x40.1).bind fun x41 =>
    (nA x41 21 60 (60 : Int32)).bind fun x42 =>
    (pP x42.2 a0 13 40 x42.1).bind fun x43 =>
    (nA x43 23 60 (60 : Int32)).bind fun x44 =>
    (pP x44.2 a0 13 41 x44.1).bind fun x45 =>
    (nA x45 21 6 (6 : Int32)).bind fun x46 =>
    (pP x46.2 a0 13 46 x46.1).bind fun x47 =>
    (nA x47 22 60 (60 : Int32)).bind fun x48 =>
    (pP x48.2 a0 13 47 x48.1).bind fun x49 =>
    (nA x49 22 60 (60 : Int32)).bind fun x50 =>
    (pP x50.2 a0 13 48 x50.1).bind fun x51 =>
    (lp_X12_init_212 BIG a0 (0 : Int32) x51).bind fun x55 =>
    (lp_X12_init_233 BIG a0 (0 : Int32) x55).bind fun x59 =>
    some x59
  else none
def f_X12_in (μ : Mm) (p0 : Int32) (p1 : Int32) (p2 : Int32) : Option Int32 :=
  if p0 < p1 then
    some (0 : Int32)
  else
    if p2 < p0 then
      some (0 : Int32)
    else
      some (1 : Int32)
def f_X12_has (μ : Mm) (p0 : Int32) (p1 : Int32) : Option Int32 :=
  if ((p0 >>> (p1 &&& 31)) &&& (1 : Int32)) = (1 : Int32) then
    some (1 : Int32)
  else
    some (0 : Int32)
def f_X12_meets (μ : Mm) (a0 : Nat) (p1 : Int32) : Option (Int32 × Mm) :=
  if tg μ a0 = 13 then
    (pI μ a0 13 0 p1).bind fun x1 =>
    (gP x1 a0 13 1).bind fun x2 =>
    (aI x1 x2 21 p1).bind fun x3 =>
    (qI x1 x2 21 p1 (x3 + (1 : Int32))).bind fun x4 =>
    some ((-3 : Int32), x4)
  else none
def f_X12_finding (μ : Mm) (a0 : Nat) : Option Int32 :=
  if tg μ a0 = 13 then
    (gI μ a0 13 0).bind fun x1 =>
    some x1
  else none
def f_X12_findings (μ : Mm) (a0 : Nat) (p1 : Int32) : Option Int32 :=
  if tg μ a0 = 13 then
    (f_X12_in μ p1 (1 : Int32) (5 : Int32)).bind fun x1 =>
    if x1 = 0 then
      some (-1 : Int32)
    else
      (gP μ a0 13 1).bind fun x3 =>
      (aI μ x3 21 p1).bind fun x4 =>
      some x4
  else none
def f_X12_tells (μ : Mm) (a0 : Nat) (p1 : Int32) (p2 : Int32) : Option (Int32 × Mm) :=
  if tg μ a0 = 13 then
    (pI μ a0 13 2 p1).bind fun x1 =>
    some (p2, x1)
  else none
def f_X12_asked (μ : Mm) (a0 : Nat) : Option Int32 :=
  if tg μ a0 = 13 then
    (gI μ a0 13 2).bind fun x1 =>
    some x1
  else none
def lp_X12_fraction_6 : Nat → Nat → Int64 → Int64 → Int64 → Int64 → Mm → Option Int64
  | 0, _, _, _, _, _, _ => none
  | n+1, v0, v1, v3, v5, v7, μ =>
    if (lg_cmp v7 (0 : Int64)) = 0 then
      some v5
    else
      if v7 = 0 then none else
      lp_X12_fraction_6 n v0 v1 v3 v7 (v5 - v5 / v7 * v7) μ
def f_X12_fraction (μ : Mm) (a0 : Nat) (p1 : Int64) (p3 : Int64) : Option (Int32 × Mm) :=
  if tg μ a0 = 13 then
    (lp_X12_fraction_6 BIG a0 p1 p3 p1 p3 μ).bind fun x3 =>
    if x3 = 0 then none else
    (pL μ a0 13 3 (p1 / x3)).bind fun x5 =>
    if x3 = 0 then none else
    (pL x5 a0 13 4 (p3 / x3)).bind fun x7 =>
    some ((1 : Int32), x7)
  else none
def f_X12_upper (μ : Mm) (a0 : Nat) : Option Int64 :=
  if tg μ a0 = 13 then
    (gL μ a0 13 3).bind fun x1 =>
    some x1
  else none
def f_X12_lower (μ : Mm) (a0 : Nat) : Option Int64 :=
  if tg μ a0 = 13 then
    (gL μ a0 13 4).bind fun x1 =>
    some x1
  else none
def f_X12_isRow (μ : Mm) (p0 : Int32) : Option Int32 :=
  (f_X12_in μ p0 (0 : Int32) (5 : Int32)).bind fun x1 =>
  (zb x1).bind fun _ =>
  some x1
def f_X12_rowAt (μ : Mm) (a0 : Nat) (p1 : Int32) (p2 : Int32) : Option Int32 :=
  if tg μ a0 = 13 then
    (gP μ a0 13 6).bind fun x1 =>
    (aI μ x1 21 (((40 : Int32) * p1) + p2)).bind fun x2 =>
    some x2
  else none
def lp_X12_row_34 : Nat → Nat → Int32 → Int32 → Int32 → Mm → Option Mm
  | 0, _, _, _, _, _ => none
  | n+1, v0, v1, v2, v3, μ =>
    if (40 : Int32) ≤ v3 then
      some μ
    else
      (gP μ v0 13 6).bind fun x8 =>
      (qI μ x8 21 (((40 : Int32) * v1) + v3) (0 : Int32)).bind fun x9 =>
      lp_X12_row_34 n v0 v1 v2 (v3 + 1) x9
def f_X12_row (μ : Mm) (a0 : Nat) (p1 : Int32) (p2 : Int32) : Option (Int32 × Mm) :=
  if tg μ a0 = 13 then
    (f_X12_isRow μ p1).bind fun x1 =>
    if x1 = 0 then
      some ((-1 : Int32), μ)
    else
      if p2 ≤ (40 : Int32) then
        if 0 ≤ p2 then
          (gP μ a0 13 5).bind fun x5 =>
          (qI μ x5 21 p1 p2).bind fun x6 =>
          (lp_X12_row_34 BIG a0 p1 p2 (0 : Int32) x6).bind fun x10 =>
          some (p2, x10)
        else
          (f_X12_meets μ a0 (5 : Int32)).bind fun x11 =>
          some (x11.1, x11.2)
      else
        some ((-1 : Int32), μ)
  else none
def f_X12_lay (μ : Mm) (a0 : Nat) (p1 : Int32) (p2 : Int32) (p3 : Int32) : Option (Int32 × Mm) :=
  if tg μ a0 = 13 then
    (f_X12_isRow μ p1).bind fun x1 =>
    if x1 = 0 then
      some ((-1 : Int32), μ)
    else
      (gP μ a0 13 5).bind fun x3 =>
      (aI μ x3 21 p1).bind fun x4 =>
      if 0 ≤ x4 then
        (gP μ a0 13 5).bind fun x6 =>
        (aI μ x6 21 p1).bind fun x7 =>
        (f_X12_in μ p2 (0 : Int32) (x7 - (1 : Int32))).bind fun x8 =>
        if x8 = 0 then
          (f_X12_meets μ a0 (2 : Int32)).bind fun x14 =>
          some (x14.1, x14.2)
        else
          (f_X12_rowAt μ a0 p1 p2).bind fun x10 =>
          (gP μ a0 13 6).bind fun x11 =>
          (qI μ x11 21 (((40 : Int32) * p1) + p2) p3).bind fun x12 =>
          (f_X12_tells x12 a0 x10 (1 : Int32)).bind fun x13 =>
          some (x13.1, x13.2)
      else
        (f_X12_meets μ a0 (1 : Int32)).bind fun x15 =>
        some (x15.1, x15.2)
  else none
def f_X12_at (μ : Mm) (a0 : Nat) (p1 : Int32) (p2 : Int32) : Option (Int32 × Mm) :=
  if tg μ a0 = 13 then
    (f_X12_isRow μ p1).bind fun x1 =>
    if x1 = 0 then
      some ((-1 : Int32), μ)
    else
      (gP μ a0 13 5).bind fun x3 =>
      (aI μ x3 21 p1).bind fun x4 =>
      if 0 ≤ x4 then
        (gP μ a0 13 5).bind fun x6 =>
        (aI μ x6 21 p1).bind fun x7 =>
        (f_X12_in μ p2 (0 : Int32) (x7 - (1 : Int32))).bind fun x8 =>
        if x8 = 0 then
          (f_X12_meets μ a0 (2 : Int32)).bind fun x10 =>
          some (x10.1, x10.2)
        else
          (f_X12_rowAt μ a0 p1 p2).bind fun x11 =>
          (f_X12_tells μ a0 x11 (1 : Int32)).bind fun x12 =>
          some (x12.1, x12.2)
      else
        (f_X12_meets μ a0 (1 : Int32)).bind fun x13 =>
        some (x13.1, x13.2)
  else none
def f_X12_tear (μ : Mm) (a0 : Nat) (p1 : Int32) : Option (Int32 × Mm) :=
  if tg μ a0 = 13 then
    (f_X12_isRow μ p1).bind fun x1 =>
    if x1 = 0 then
      some ((-1 : Int32), μ)
    else
      (gP μ a0 13 5).bind fun x3 =>
      (aI μ x3 21 p1).bind fun x4 =>
      if 0 ≤ x4 then
        (gP μ a0 13 5).bind fun x6 =>
        (qI μ x6 21 p1 (-1 : Int32)).bind fun x7 =>
        some ((1 : Int32), x7)
      else
        (f_X12_meets μ a0 (1 : Int32)).bind fun x8 =>
        some (x8.1, x8.2)
  else none
def lp_X12_copy_104 : Nat → Nat → Int32 → Int32 → Int32 → Int32 → Int32 → Int32 → Mm → Option Mm
  | 0, _, _, _, _, _, _, _, _ => none
  | n+1, v0, v1, v2, v3, v4, v5, v6, μ =>
    if v5 ≤ v6 then
      some μ
    else
      (gP μ v0 13 7).bind fun x25 =>
      (f_X12_rowAt μ v0 v1 (v2 + v6)).bind fun x26 =>
      (qI μ x25 21 v6 x26).bind fun x27 =>
      lp_X12_copy_104 n v0 v1 v2 v3 v4 v5 (v6 + 1) x27
def lp_X12_copy_136 : Nat → Nat → Int32 → Int32 → Int32 → Int32 → Mm → Option Mm
  | 0, _, _, _, _, _, _ => none
  | n+1, v0, v3, v4, v5, v6, μ =>
    if v5 ≤ v6 then
      some μ
    else
      (gP μ v0 13 6).bind fun x30 =>
      (gP μ v0 13 7).bind fun x31 =>
      (aI μ x31 21 v6).bind fun x32 =>
      (qI μ x30 21 ((((40 : Int32) * v3) + v4) + v6) x32).bind fun x33 =>
      lp_X12_copy_136 n v0 v3 v4 v5 (v6 + 1) x33
def f_X12_copy (μ : Mm) (a0 : Nat) (p1 : Int32) (p2 : Int32) (p3 : Int32) (p4 : Int32) (p5 : Int32) : Option (Int32 × Mm) :=
  if tg μ a0 = 13 then
    (f_X12_isRow μ p1).bind fun x1 =>
    if x1 = 0 then
      some ((-1 : Int32), μ)
    else
      (f_X12_isRow μ p3).bind fun x3 =>
      if x3 = 0 then
        some ((-1 : Int32), μ)
      else
        if 0 ≤ p5 then
          (gP μ a0 13 5).bind fun x6 =>
          (aI μ x6 21 p1).bind fun x7 =>
          if x7 < 0 then
            (f_X12_meets μ a0 (1 : Int32)).bind fun x9 =>
            some (x9.1, x9.2)
          else
            (gP μ a0 13 5).bind fun x10 =>
            (aI μ x10 21 p3).bind fun x11 =>
            if 0 ≤ x11 then
              if p2 < 0 then
                (f_X12_meets μ a0 (2 : Int32)).bind fun x14 =>
                some (x14.1, x14.2)
              else
                if p4 < 0 then
                  (f_X12_meets μ a0 (2 : Int32)).bind fun x16 =>
                  some (x16.1, x16.2)
                else
                  (gP μ a0 13 5).bind fun x17 =>
                  (aI μ x17 21 p1).bind fun x18 =>
                  if 0 < (lg_cmp (p2.toInt64 + p5.toInt64) x18.toInt64) then
                    (f_X12_meets μ a0 (2 : Int32)).bind fun x20 =>
                    some (x20.1, x20.2)
                  else
                    (gP μ a0 13 5).bind fun x21 =>
                    (aI μ x21 21 p3).bind fun x22 =>
                    if (lg_cmp (p4.toInt64 + p5.toInt64) x22.toInt64) ≤ 0 then
                      (lp_X12_copy_104 BIG a0 p1 p2 p3 p4 p5 (0 : Int32) μ).bind fun x28 =>
                      (lp_X12_copy_136 BIG a0 p3 p4 p5 (0 : Int32) x28).bind fun x34 =>
                      some ((1 : Int32), x34)
                    else
                      (f_X12_meets μ a0 (2 : Int32)).bind fun x35 =>
                      some (x35.1, x35.2)
            else
              (f_X12_meets μ a0 (1 : Int32)).bind fun x36 =>
              some (x36.1, x36.2)
        else
          (f_X12_meets μ a0 (5 : Int32)).bind fun x37 =>
          some (x37.1, x37.2)
  else none
def lp_X12_mean_44 : Nat → Nat → Int32 → Int64 → Int32 → Mm → Option Int64
  | 0, _, _, _, _, _ => none
  | n+1, v0, v1, v2, v4, μ =>
    (gP μ v0 13 5).bind fun x9 =>
    (aI μ x9 21 v1).bind fun x10 =>
    if x10 ≤ v4 then
      some v2
    else
      (f_X12_rowAt μ v0 v1 v4).bind fun x12 =>
      lp_X12_mean_44 n v0 v1 (v2 + x12.toInt64) (v4 + 1) μ
def f_X12_mean (μ : Mm) (a0 : Nat) (p1 : Int32) : Option (Int32 × Mm) :=
  if tg μ a0 = 13 then
    (f_X12_isRow μ p1).bind fun x1 =>
    if x1 = 0 then
      some ((-1 : Int32), μ)
    else
      (gP μ a0 13 5).bind fun x3 =>
      (aI μ x3 21 p1).bind fun x4 =>
      if 0 ≤ x4 then
        (gP μ a0 13 5).bind fun x6 =>
        (aI μ x6 21 p1).bind fun x7 =>
        if x7 = 0 then
          (f_X12_meets μ a0 (4 : Int32)).bind fun x18 =>
          some (x18.1, x18.2)
        else
          (lp_X12_mean_44 BIG a0 p1 (0 : Int64) (0 : Int32) μ).bind fun x13 =>
          (gP μ a0 13 5).bind fun x14 =>
          (aI μ x14 21 p1).bind fun x15 =>
          if x15.toInt64 = 0 then none else
          (f_X12_tells μ a0 ((x13 / x15.toInt64).toInt32) (1 : Int32)).bind fun x17 =>
          some (x17.1, x17.2)
      else
        (f_X12_meets μ a0 (1 : Int32)).bind fun x19 =>
        some (x19.1, x19.2)
  else none
def f_X12_isText (μ : Mm) (p0 : Int32) : Option Int32 :=
  (f_X12_in μ p0 (0 : Int32) (3 : Int32)).bind fun x1 =>
  (zb x1).bind fun _ =>
  some x1
def lp_X12_text_34 : Nat → Nat → Int32 → Int32 → Int32 → Mm → Option Mm
  | 0, _, _, _, _, _ => none
  | n+1, v0, v1, v2, v3, μ =>
    if (60 : Int32) ≤ v3 then
      some μ
    else
      (gP μ v0 13 9).bind fun x8 =>
      (qB μ x8 20 (((60 : Int32) * v1) + v3) (32 : Int32)).bind fun x9 =>
      lp_X12_text_34 n v0 v1 v2 (v3 + 1) x9
def f_X12_text (μ : Mm) (a0 : Nat) (p1 : Int32) (p2 : Int32) : Option (Int32 × Mm) :=
  if tg μ a0 = 13 then
    (f_X12_isText μ p1).bind fun x1 =>
    if x1 = 0 then
      some ((-1 : Int32), μ)
    else
      if p2 ≤ (60 : Int32) then
        if 0 ≤ p2 then
          (gP μ a0 13 8).bind fun x5 =>
          (qI μ x5 21 p1 p2).bind fun x6 =>
          (lp_X12_text_34 BIG a0 p1 p2 (0 : Int32) x6).bind fun x10 =>
          some (p2, x10)
        else
          (f_X12_meets μ a0 (5 : Int32)).bind fun x11 =>
          some (x11.1, x11.2)
      else
        some ((-1 : Int32), μ)
  else none
def f_X12_put (μ : Mm) (a0 : Nat) (p1 : Int32) (p2 : Int32) (p3 : Int32) : Option (Int32 × Mm) :=
  if tg μ a0 = 13 then
    (f_X12_isText μ p1).bind fun x1 =>
    if x1 = 0 then
      some ((-1 : Int32), μ)
    else
      (gP μ a0 13 8).bind fun x3 =>
      (aI μ x3 21 p1).bind fun x4 =>
      if 0 ≤ x4 then
        (gP μ a0 13 8).bind fun x6 =>
        (aI μ x6 21 p1).bind fun x7 =>
        (f_X12_in μ p2 (0 : Int32) (x7 - (1 : Int32))).bind fun x8 =>
        if x8 = 0 then
          (f_X12_meets μ a0 (2 : Int32)).bind fun x14 =>
          some (x14.1, x14.2)
        else
          (gP μ a0 13 9).bind fun x10 =>
          (aI μ x10 20 (((60 : Int32) * p1) + p2)).bind fun x11 =>
          (gP μ a0 13 9).bind fun x12 =>
          (qB μ x12 20 (((60 : Int32) * p1) + p2) p3.toInt8.toInt32).bind fun x13 =>
          some (((1000 : Int32) + x11), x13)
      else
        (f_X12_meets μ a0 (1 : Int32)).bind fun x15 =>
        some (x15.1, x15.2)
  else none
def f_X12_byteAt (μ : Mm) (a0 : Nat) (p1 : Int32) (p2 : Int32) : Option Int32 :=
  if tg μ a0 = 13 then
    (gP μ a0 13 8).bind fun x1 =>
    (aI μ x1 21 p1).bind fun x2 =>
    if x2 ≤ p2 then
      some (0 : Int32)
    else
      (gP μ a0 13 9).bind fun x4 =>
      (aI μ x4 20 (((60 : Int32) * p1) + p2)).bind fun x5 =>
      some x5
  else none
def lp_X12_layRow_10 : Nat → Nat → Int32 → Nat → Int32 → Int32 → Mm → Option Mm
  | 0, _, _, _, _, _, _ => none
  | n+1, v0, v1, v2, v3, v4, μ =>
    if (40 : Int32) ≤ v4 then
      some μ
    else
      (gP μ v0 13 6).bind fun x4 =>
      if v3 ≤ v4 then
        (qI μ x4 21 (((40 : Int32) * v1) + v4) (0 : Int32)).bind fun x6 =>
        lp_X12_layRow_10 n v0 v1 v2 v3 (v4 + 1) x6
      else
        (aI μ v2 21 v4).bind fun x7 =>
        (qI μ x4 21 (((40 : Int32) * v1) + v4) x7).bind fun x8 =>
        lp_X12_layRow_10 n v0 v1 v2 v3 (v4 + 1) x8
def f_X12_layRow (μ : Mm) (a0 : Nat) (p1 : Int32) (p2 : Nat) (p3 : Int32) : Option Mm :=
  if tg μ a0 = 13 then
    (gP μ a0 13 5).bind fun x1 =>
    (qI μ x1 21 p1 p3).bind fun x2 =>
    (lp_X12_layRow_10 BIG a0 p1 p2 p3 (0 : Int32) x2).bind fun x9 =>
    some x9
  else none
def f_X12_kindOf (μ : Mm) (p0 : Int32) : Option Int32 :=
  if p0 = (99 : Int32) then
    some (2 : Int32)
  else
    if p0 = (103 : Int32) then
      some (0 : Int32)
    else
      if p0 = (104 : Int32) then
        some (1 : Int32)
      else
        if p0 = (107 : Int32) then
          some (3 : Int32)
        else
          if p0 = (114 : Int32) then
            some (4 : Int32)
          else
            if p0 = (116 : Int32) then
              some (5 : Int32)
            else
              some (-9 : Int32)
def f_X12_isFigure (μ : Mm) (a0 : Nat) (p1 : Int32) (p2 : Int32) : Option Int32 :=
  if tg μ a0 = 13 then
    (f_X12_byteAt μ a0 p1 p2).bind fun x1 =>
    (f_X12_in μ x1 (48 : Int32) (57 : Int32)).bind fun x2 =>
    (zb x2).bind fun _ =>
    some x2
  else none
def lp_X12_readsTwo_3 : Nat → Nat → Int32 → Int32 → Int32 → Int32 → Mm → Option (Nat × Int32)
  | 0, _, _, _, _, _, _ => none
  | n+1, v0, v1, v2, v3, v4, μ =>
    if (2 : Int32) ≤ v4 then
      some (1, (0 : Int32))
    else
      (gI μ v0 13 16).bind fun x2 =>
      (f_X12_isFigure μ v0 v1 (x2 + v4)).bind fun x3 =>
      if x3 = 0 then
        some (0, v4)
      else
        lp_X12_readsTwo_3 n v0 v1 v2 v3 (v4 + 1) μ
def f_X12_readsTwo (μ : Mm) (a0 : Nat) (p1 : Int32) (p2 : Int32) (p3 : Int32) : Option (Int32 × Mm) :=
  if tg μ a0 = 13 then
    (lp_X12_readsTwo_3 BIG a0 p1 p2 p3 (0 : Int32) μ).bind fun x5 =>
    if x5.1 = 0 then
      (gI μ a0 13 16).bind fun x6 =>
      (pI μ a0 13 16 (x6 + x5.2)).bind fun x7 =>
      some ((-9 : Int32), x7)
    else
      (gI μ a0 13 16).bind fun x8 =>
      (f_X12_byteAt μ a0 p1 x8).bind fun x9 =>
      (gI μ a0 13 16).bind fun x10 =>
      (f_X12_byteAt μ a0 p1 (x10 + (1 : Int32))).bind fun x11 =>
      (f_X12_in μ ((((10 : Int32) * (x9 - (48 : Int32))) + x11) - (48 : Int32)) p2 p3).bind fun x12 =>
      if x12 = 0 then
        some ((-9 : Int32), μ)
      else
        some (((((10 : Int32) * (x9 - (48 : Int32))) + x11) - (48 : Int32)), μ)
  else none
def f_X12_readsDial (μ : Mm) (a0 : Nat) (p1 : Int32) : Option (Int32 × Mm) :=
  if tg μ a0 = 13 then
    (gI μ a0 13 16).bind fun x1 =>
    (f_X12_byteAt μ a0 p1 x1).bind fun x2 =>
    if x2 = (100 : Int32) then
      (gI μ a0 13 16).bind fun x4 =>
      (pI μ a0 13 16 (x4 + (1 : Int32))).bind fun x5 =>
      (f_X12_readsTwo x5 a0 p1 (12 : Int32) (60 : Int32)).bind fun x6 =>
      if x6.1 = (-9 : Int32) then
        some ((0 : Int32), x6.2)
      else
        (pI x6.2 a0 13 18 x6.1).bind fun x8 =>
        (gI x8 a0 13 16).bind fun x9 =>
        (pI x8 a0 13 16 (x9 + (2 : Int32))).bind fun x10 =>
        some ((1 : Int32), x10)
    else
      some ((0 : Int32), μ)
  else none
def f_X12_readsRent (μ : Mm) (a0 : Nat) (p1 : Int32) : Option (Int32 × Mm) :=
  if tg μ a0 = 13 then
    (gI μ a0 13 17).bind fun x1 =>
    if x1 = 0 then
      some ((0 : Int32), μ)
    else
      (gI μ a0 13 19).bind fun x3 =>
      if x3 = (6 : Int32) then
        some ((0 : Int32), μ)
      else
        (gI μ a0 13 16).bind fun x5 =>
        (pI μ a0 13 16 (x5 + (1 : Int32))).bind fun x6 =>
        (gI x6 a0 13 18).bind fun x7 =>
        (f_X12_readsTwo x6 a0 p1 (1 : Int32) (x7 - (1 : Int32))).bind fun x8 =>
        if x8.1 = (-9 : Int32) then
          some ((0 : Int32), x8.2)
        else
          (gL x8.2 a0 13 20).bind fun x10 =>
          if (lg_cmp ((x10 >>> (x8.1.toInt64 &&& 63)) &&& (1 : Int64)) (1 : Int64)) = 0 then
            some ((0 : Int32), x8.2)
          else
            (gL x8.2 a0 13 20).bind fun x12 =>
            (pL x8.2 a0 13 20 (x12 ||| ((1 : Int64) <<< (x8.1.toInt64 &&& 63)))).bind fun x13 =>
            (gI x13 a0 13 19).bind fun x14 =>
            (pI x13 a0 13 19 (x14 + (1 : Int32))).bind fun x15 =>
            (gI x15 a0 13 16).bind fun x16 =>
            (pI x15 a0 13 16 (x16 + (2 : Int32))).bind fun x17 =>
            some ((1 : Int32), x17)
  else none
def f_X12_readsGuild (μ : Mm) (a0 : Nat) (p1 : Int32) : Option (Int32 × Mm) :=
  if tg μ a0 = 13 then
    (gI μ a0 13 16).bind fun x1 =>
    (f_X12_byteAt μ a0 p1 x1).bind fun x2 =>
    (f_X12_kindOf μ x2).bind fun x3 =>
    if x3 = (-9 : Int32) then
      some ((0 : Int32), μ)
    else
      (gI μ a0 13 19).bind fun x5 =>
      if 0 < x5 then
        some ((0 : Int32), μ)
      else
        (gI μ a0 13 17).bind fun x7 =>
        if x7 = (6 : Int32) then
          some ((0 : Int32), μ)
        else
          (gI μ a0 13 16).bind fun x9 =>
          (pI μ a0 13 16 (x9 + (1 : Int32))).bind fun x10 =>
          (gI x10 a0 13 16).bind fun x11 =>
          (f_X12_byteAt x10 a0 p1 x11).bind fun x12 =>
          (f_X12_in x10 (x12 - (48 : Int32)) (1 : Int32) (9 : Int32)).bind fun x13 =>
          if x13 = 0 then
            some ((0 : Int32), x10)
          else
            (gP x10 a0 13 21).bind fun x15 =>
            (gI x10 a0 13 17).bind fun x16 =>
            (qI x10 x15 21 x16 x3).bind fun x17 =>
            (gP x17 a0 13 22).bind fun x18 =>
            (gI x17 a0 13 17).bind fun x19 =>
            (qI x17 x18 21 x19 (x12 - (48 : Int32))).bind fun x20 =>
            (gI x20 a0 13 17).bind fun x21 =>
            (pI x20 a0 13 17 (x21 + (1 : Int32))).bind fun x22 =>
            (gI x22 a0 13 16).bind fun x23 =>
            (pI x22 a0 13 16 (x23 + (1 : Int32))).bind fun x24 =>
            some ((1 : Int32), x24)
  else none
def f_X12_readsItem (μ : Mm) (a0 : Nat) (p1 : Int32) : Option (Int32 × Mm) :=
  if tg μ a0 = 13 then
    (gI μ a0 13 18).bind fun x1 =>
    if x1 = 0 then
      (f_X12_readsDial μ a0 p1).bind fun x8 =>
      (zb x8.1).bind fun _ =>
      some (x8.1, x8.2)
    else
      (gI μ a0 13 16).bind fun x3 =>
      (f_X12_byteAt μ a0 p1 x3).bind fun x4 =>
      if x4 = (101 : Int32) then
        (f_X12_readsRent μ a0 p1).bind fun x7 =>
        (zb x7.1).bind fun _ =>
        some (x7.1, x7.2)
      else
        (f_X12_readsGuild μ a0 p1).bind fun x6 =>
        (zb x6.1).bind fun _ =>
        some (x6.1, x6.2)
  else none
def lp_X12_faultOf_25 : Nat → Nat → Int32 → Mm → Option (Nat × Mm)
  | 0, _, _, _ => none
  | n+1, v0, v1, μ =>
    (gI μ v0 13 16).bind fun x6 =>
    (gP μ v0 13 8).bind fun x7 =>
    (aI μ x7 21 v1).bind fun x8 =>
    if x8 ≤ x6 then
      some (1, μ)
    else
      (gI μ v0 13 16).bind fun x10 =>
      (f_X12_byteAt μ v0 v1 x10).bind fun x11 =>
      if x11 = (32 : Int32) then
        (gI μ v0 13 16).bind fun x15 =>
        (pI μ v0 13 16 (x15 + (1 : Int32))).bind fun x16 =>
        lp_X12_faultOf_25 n v0 v1 x16
      else
        (f_X12_readsItem μ v0 v1).bind fun x13 =>
        if x13.1 = 0 then
          some (0, x13.2)
        else
          lp_X12_faultOf_25 n v0 v1 x13.2
def f_X12_faultOf (μ : Mm) (a0 : Nat) (p1 : Int32) : Option (Int32 × Mm) :=
  if tg μ a0 = 13 then
    (pI μ a0 13 16 (0 : Int32)).bind fun x1 =>
    (pI x1 a0 13 17 (0 : Int32)).bind fun x2 =>
    (pI x2 a0 13 18 (0 : Int32)).bind fun x3 =>
    (pI x3 a0 13 19 (0 : Int32)).bind fun x4 =>
    (pL x4 a0 13 20 (0 : Int64)).bind fun x5 =>
    (lp_X12_faultOf_25 BIG a0 p1 x5).bind fun x17 =>
    if x17.1 = 0 then
      (gI x17.2 a0 13 16).bind fun x18 =>
      some (x18, x17.2)
    else
      (gI x17.2 a0 13 17).bind fun x19 =>
      if x19 = 0 then
        (gP x17.2 a0 13 8).bind fun x21 =>
        (aI x17.2 x21 21 p1).bind fun x22 =>
        some (x22, x17.2)
      else
        some ((-9 : Int32), x17.2)
  else none
def f_X12_fault (μ : Mm) (a0 : Nat) (p1 : Int32) : Option (Int32 × Mm) :=
  if tg μ a0 = 13 then
    (f_X12_isText μ p1).bind fun x1 =>
    if x1 = 0 then
      some ((-1 : Int32), μ)
    else
      (gP μ a0 13 8).bind fun x3 =>
      (aI μ x3 21 p1).bind fun x4 =>
      if 0 ≤ x4 then
        (f_X12_faultOf μ a0 p1).bind fun x6 =>
        some (x6.1, x6.2)
      else
        (f_X12_meets μ a0 (1 : Int32)).bind fun x7 =>
        some (x7.1, x7.2)
  else none
def lp_X12_hall_71 : Nat → Nat → Int32 → Mm → Option Mm
  | 0, _, _, _ => none
  | n+1, v0, v2, μ =>
    (gI μ v0 13 10).bind fun x16 =>
    if x16 ≤ v2 then
      some μ
    else
      (gP μ v0 13 14).bind fun x18 =>
      (gP μ v0 13 21).bind fun x19 =>
      (aI μ x19 21 v2).bind fun x20 =>
      (qI μ x18 21 v2 x20).bind fun x21 =>
      (gP x21 v0 13 15).bind fun x22 =>
      (gP x21 v0 13 22).bind fun x23 =>
      (aI x21 x23 21 v2).bind fun x24 =>
      (qI x21 x22 21 v2 x24).bind fun x25 =>
      lp_X12_hall_71 n v0 (v2 + 1) x25
def lp_X12_hall_111 : Nat → Nat → Int32 → Mm → Option Mm
  | 0, _, _, _ => none
  | n+1, v0, v2, μ =>
    if (11 : Int32) ≤ v2 then
      some μ
    else
      (gP μ v0 13 23).bind fun x28 =>
      (qI μ x28 21 v2 (0 : Int32)).bind fun x29 =>
      lp_X12_hall_111 n v0 (v2 + 1) x29
def lp_X12_hall_137 : Nat → Nat → Int32 → Mm → Option Mm
  | 0, _, _, _ => none
  | n+1, v0, v2, μ =>
    if (3 : Int32) ≤ v2 then
      some μ
    else
      (gP μ v0 13 27).bind fun x33 =>
      (qZ μ x33 23 v2 (0 : Int32)).bind fun x34 =>
      lp_X12_hall_137 n v0 (v2 + 1) x34
def f_X12_hall (μ : Mm) (a0 : Nat) (p1 : Int32) : Option (Int32 × Mm) :=
  if tg μ a0 = 13 then
    (f_X12_isText μ p1).bind fun x1 =>
    if x1 = 0 then
      some ((-1 : Int32), μ)
    else
      (gP μ a0 13 8).bind fun x3 =>
      (aI μ x3 21 p1).bind fun x4 =>
      if 0 ≤ x4 then
        (f_X12_faultOf μ a0 p1).bind fun x6 =>
        if x6.1 = (-9 : Int32) then
          (gI x6.2 a0 13 17).bind fun x8 =>
          (pI x6.2 a0 13 10 x8).bind fun x9 =>
          (gI x9 a0 13 18).bind fun x10 =>
          (pI x9 a0 13 11 x10).bind fun x11 =>
          (gI x11 a0 13 19).bind fun x12 =>
          (pI x11 a0 13 12 x12).bind fun x13 =>
          (gL x13 a0 13 20).bind fun x14 =>
          (pL x13 a0 13 13 x14).bind fun x15 =>
          (lp_X12_hall_71 BIG a0 (0 : Int32) x15).bind fun x26 =>
          (lp_X12_hall_111 BIG a0 (0 : Int32) x26).bind fun x30 =>
          (pI x30 a0 13 25 (0 : Int32)).bind fun x31 =>
          (lp_X12_hall_137 BIG a0 (0 : Int32) x31).bind fun x35 =>
          (gI x35 a0 13 10).bind fun x36 =>
          some (x36, x35)
        else
          some ((-4 : Int32), x6.2)
      else
        (f_X12_meets μ a0 (1 : Int32)).bind fun x37 =>
        some (x37.1, x37.2)
  else none
def f_X12_isGuild (μ : Mm) (a0 : Nat) (p1 : Int32) : Option Int32 :=
  if tg μ a0 = 13 then
    (gI μ a0 13 10).bind fun x1 =>
    (f_X12_in μ p1 (0 : Int32) (x1 - (1 : Int32))).bind fun x2 =>
    (zb x2).bind fun _ =>
    some x2
  else none
def f_X12_isTooth (μ : Mm) (a0 : Nat) (p1 : Int32) : Option Int32 :=
  if tg μ a0 = 13 then
    (gI μ a0 13 11).bind fun x1 =>
    (f_X12_in μ p1 (0 : Int32) (x1 - (1 : Int32))).bind fun x2 =>
    (zb x2).bind fun _ =>
    some x2
  else none
def f_X12_isRent (μ : Mm) (a0 : Nat) (p1 : Int32) : Option Int32 :=
  if tg μ a0 = 13 then
    (gL μ a0 13 13).bind fun x1 =>
    if (lg_cmp ((x1 >>> (p1.toInt64 &&& 63)) &&& (1 : Int64)) (1 : Int64)) = 0 then
      some (1 : Int32)
    else
      some (0 : Int32)
  else none
def f_X12_bareOf (μ : Mm) (a0 : Nat) (p1 : Int32) : Option Int32 :=
  if tg μ a0 = 13 then
    (gP μ a0 13 15).bind fun x1 =>
    (aI μ x1 21 p1).bind fun x2 =>
    (gP μ a0 13 14).bind fun x3 =>
    (aI μ x3 21 p1).bind fun x4 =>
    if x4 = (1 : Int32) then
      some ((2 : Int32) * x2)
    else
      if x4 = (2 : Int32) then
        some (x2 - (1 : Int32))
      else
        if x4 = (3 : Int32) then
          some (0 : Int32)
        else
          if x4 = (4 : Int32) then
            some (((2 : Int32) * x2) - (x2 / (2 : Int32)))
          else
            if x4 = (5 : Int32) then
              some ((x2 - (1 : Int32)) / (2 : Int32))
            else
              some x2
  else none
def f_X12_treadOf (μ : Mm) (a0 : Nat) (p1 : Int32) : Option Int32 :=
  if tg μ a0 = 13 then
    (gP μ a0 13 23).bind fun x1 =>
    (aI μ x1 21 (2 : Int32)).bind fun x2 =>
    if x2 = 0 then
      (f_X12_bareOf μ a0 p1).bind fun x8 =>
      some x8
    else
      (gP μ a0 13 23).bind fun x4 =>
      (aI μ x4 21 (2 : Int32)).bind fun x5 =>
      if x5 = (1 : Int32) then
        (f_X12_bareOf μ a0 p1).bind fun x7 =>
        some (x7 / (2 : Int32))
      else
        some (0 : Int32)
  else none
def f_X12_isHeavy (μ : Mm) (a0 : Nat) (p1 : Int32) : Option Int32 :=
  if tg μ a0 = 13 then
    (gP μ a0 13 14).bind fun x1 =>
    (aI μ x1 21 p1).bind fun x2 =>
    if x2 = (1 : Int32) then
      some (1 : Int32)
    else
      (gP μ a0 13 14).bind fun x4 =>
      (aI μ x4 21 p1).bind fun x5 =>
      if x5 = (4 : Int32) then
        some (1 : Int32)
      else
        some (0 : Int32)
  else none
def f_X12_isChild (μ : Mm) (a0 : Nat) (p1 : Int32) : Option Int32 :=
  if tg μ a0 = 13 then
    (gP μ a0 13 14).bind fun x1 =>
    (aI μ x1 21 p1).bind fun x2 =>
    if x2 = (2 : Int32) then
      some (1 : Int32)
    else
      (gP μ a0 13 14).bind fun x4 =>
      (aI μ x4 21 p1).bind fun x5 =>
      if x5 = (5 : Int32) then
        some (1 : Int32)
      else
        some (0 : Int32)
  else none
def f_X12_guildTells (μ : Mm) (a0 : Nat) (p1 : Int32) (p2 : Int32) : Option Int32 :=
  if tg μ a0 = 13 then
    if p2 = (0 : Int32) then
      (gP μ a0 13 14).bind fun x2 =>
      (aI μ x2 21 p1).bind fun x3 =>
      some x3
    else
      if p2 = (1 : Int32) then
        (gP μ a0 13 15).bind fun x5 =>
        (aI μ x5 21 p1).bind fun x6 =>
        some x6
      else
        if p2 = (2 : Int32) then
          (f_X12_treadOf μ a0 p1).bind fun x8 =>
          some x8
        else
          if p2 = (3 : Int32) then
            (f_X12_bareOf μ a0 p1).bind fun x10 =>
            some x10
          else
            (gP μ a0 13 23).bind fun x11 =>
            (aI μ x11 21 ((5 : Int32) + p1)).bind fun x12 =>
            some x12
  else none
def f_X12_guild (μ : Mm) (a0 : Nat) (p1 : Int32) (p2 : Int32) : Option (Int32 × Mm) :=
  if tg μ a0 = 13 then
    (f_X12_isGuild μ a0 p1).bind fun x1 =>
    if x1 = 0 then
      some ((-1 : Int32), μ)
    else
      (f_X12_in μ p2 (0 : Int32) (4 : Int32)).bind fun x3 =>
      if x3 = 0 then
        some ((-1 : Int32), μ)
      else
        (f_X12_guildTells μ a0 p1 p2).bind fun x5 =>
        (f_X12_tells μ a0 x5 (1 : Int32)).bind fun x6 =>
        some (x6.1, x6.2)
  else none
def lp_X12_idle_4 : Nat → Nat → Int32 → Int32 → Mm → Option Int32
  | 0, _, _, _, _ => none
  | n+1, v0, v1, v2, μ =>
    (gI μ v0 13 10).bind fun x1 =>
    if x1 ≤ v2 then
      some v1
    else
      (f_X12_treadOf μ v0 v2).bind fun x3 =>
      if x3 = 0 then
        lp_X12_idle_4 n v0 (v1 + (1 : Int32)) (v2 + 1) μ
      else
        lp_X12_idle_4 n v0 (v1 + (0 : Int32)) (v2 + 1) μ
def f_X12_idle (μ : Mm) (a0 : Nat) : Option Int32 :=
  if tg μ a0 = 13 then
    (lp_X12_idle_4 BIG a0 (0 : Int32) (0 : Int32) μ).bind fun x5 =>
    some x5
  else none
def lp_X12_childMany_4 : Nat → Nat → Int32 → Int32 → Mm → Option Int32
  | 0, _, _, _, _ => none
  | n+1, v0, v1, v2, μ =>
    (gI μ v0 13 10).bind fun x1 =>
    if x1 ≤ v2 then
      some v1
    else
      (f_X12_isChild μ v0 v2).bind fun x3 =>
      if x3 = 0 then
        lp_X12_childMany_4 n v0 (v1 + (0 : Int32)) (v2 + 1) μ
      else
        lp_X12_childMany_4 n v0 (v1 + (1 : Int32)) (v2 + 1) μ
def f_X12_childMany (μ : Mm) (a0 : Nat) : Option Int32 :=
  if tg μ a0 = 13 then
    (lp_X12_childMany_4 BIG a0 (0 : Int32) (0 : Int32) μ).bind fun x5 =>
    some x5
  else none
def f_X12_roundBy (μ : Mm) (a0 : Nat) (p1 : Int32) : Option Int32 :=
  if tg μ a0 = 13 then
    (f_X12_bareOf μ a0 p1).bind fun x1 =>
    if x1 = 0 then
      some (-9 : Int32)
    else
      (gI μ a0 13 11).bind fun x3 =>
      if x1 = 0 then none else
      some (((x3 + x1) - (1 : Int32)) / x1)
  else none
def f_X12_mark (μ : Mm) (a0 : Nat) (p1 : Int32) (p2 : Int32) : Option (Int32 × Mm) :=
  if tg μ a0 = 13 then
    (f_X12_isGuild μ a0 p1).bind fun x1 =>
    if x1 = 0 then
      some ((-1 : Int32), μ)
    else
      (f_X12_in μ p2 (1 : Int32) (5 : Int32)).bind fun x3 =>
      if x3 = 0 then
        some ((-1 : Int32), μ)
      else
        (gP μ a0 13 14).bind fun x5 =>
        (aI μ x5 21 p1).bind fun x6 =>
        if x6 = p2 then
          if p2 = (1 : Int32) then
            (f_X12_bareOf μ a0 p1).bind fun x9 =>
            (gP μ a0 13 15).bind fun x10 =>
            (aI μ x10 21 p1).bind fun x11 =>
            some ((x9 - x11), μ)
          else
            if p2 = (2 : Int32) then
              (f_X12_childMany μ a0).bind fun x13 =>
              some (x13, μ)
            else
              if p2 = (3 : Int32) then
                (f_X12_idle μ a0).bind fun x15 =>
                some (x15, μ)
              else
                if p2 = (4 : Int32) then
                  (gP μ a0 13 15).bind fun x17 =>
                  (aI μ x17 21 p1).bind fun x18 =>
                  some ((x18 / (2 : Int32)), μ)
                else
                  (f_X12_roundBy μ a0 p1).bind fun x19 =>
                  some (x19, μ)
        else
          if p2 = (1 : Int32) then
            if x6 = (4 : Int32) then
              if p2 = (1 : Int32) then
                (f_X12_bareOf μ a0 p1).bind fun x41 =>
                (gP μ a0 13 15).bind fun x42 =>
                (aI μ x42 21 p1).bind fun x43 =>
                some ((x41 - x43), μ)
              else
                if p2 = (2 : Int32) then
                  (f_X12_childMany μ a0).bind fun x45 =>
                  some (x45, μ)
                else
                  if p2 = (3 : Int32) then
                    (f_X12_idle μ a0).bind fun x47 =>
                    some (x47, μ)
                  else
                    if p2 = (4 : Int32) then
                      (gP μ a0 13 15).bind fun x49 =>
                      (aI μ x49 21 p1).bind fun x50 =>
                      some ((x50 / (2 : Int32)), μ)
                    else
                      (f_X12_roundBy μ a0 p1).bind fun x51 =>
                      some (x51, μ)
            else
              if p2 = (2 : Int32) then
                if x6 = (5 : Int32) then
                  if p2 = (1 : Int32) then
                    (f_X12_bareOf μ a0 p1).bind fun x57 =>
                    (gP μ a0 13 15).bind fun x58 =>
                    (aI μ x58 21 p1).bind fun x59 =>
                    some ((x57 - x59), μ)
                  else
                    if p2 = (2 : Int32) then
                      (f_X12_childMany μ a0).bind fun x61 =>
                      some (x61, μ)
                    else
                      if p2 = (3 : Int32) then
                        (f_X12_idle μ a0).bind fun x63 =>
                        some (x63, μ)
                      else
                        if p2 = (4 : Int32) then
                          (gP μ a0 13 15).bind fun x65 =>
                          (aI μ x65 21 p1).bind fun x66 =>
                          some ((x66 / (2 : Int32)), μ)
                        else
                          (f_X12_roundBy μ a0 p1).bind fun x67 =>
                          some (x67, μ)
                else
                  (f_X12_meets μ a0 (3 : Int32)).bind fun x69 =>
                  some (x69.1, x69.2)
              else
                (f_X12_meets μ a0 (3 : Int32)).bind fun x54 =>
                some (x54.1, x54.2)
          else
            if p2 = (2 : Int32) then
              if x6 = (5 : Int32) then
                if p2 = (1 : Int32) then
                  (f_X12_bareOf μ a0 p1).bind fun x26 =>
                  (gP μ a0 13 15).bind fun x27 =>
                  (aI μ x27 21 p1).bind fun x28 =>
                  some ((x26 - x28), μ)
                else
                  if p2 = (2 : Int32) then
                    (f_X12_childMany μ a0).bind fun x30 =>
                    some (x30, μ)
                  else
                    if p2 = (3 : Int32) then
                      (f_X12_idle μ a0).bind fun x32 =>
                      some (x32, μ)
                    else
                      if p2 = (4 : Int32) then
                        (gP μ a0 13 15).bind fun x34 =>
                        (aI μ x34 21 p1).bind fun x35 =>
                        some ((x35 / (2 : Int32)), μ)
                      else
                        (f_X12_roundBy μ a0 p1).bind fun x36 =>
                        some (x36, μ)
              else
                (f_X12_meets μ a0 (3 : Int32)).bind fun x38 =>
                some (x38.1, x38.2)
            else
              (f_X12_meets μ a0 (3 : Int32)).bind fun x23 =>
              some (x23.1, x23.2)
  else none
def f_X12_shoe (μ : Mm) (a0 : Nat) (p1 : Int32) (p2 : Int32) : Option (Int32 × Mm) :=
  if tg μ a0 = 13 then
    (f_X12_isGuild μ a0 p1).bind fun x1 =>
    if x1 = 0 then
      some ((-1 : Int32), μ)
    else
      (f_X12_in μ p2 (1 : Int32) (9 : Int32)).bind fun x3 =>
      if x3 = 0 then
        some ((-1 : Int32), μ)
      else
        (gI μ a0 13 25).bind fun x5 =>
        if x5 ≤ 0 then
          (gP μ a0 13 15).bind fun x7 =>
          (aI μ x7 21 p1).bind fun x8 =>
          (gP μ a0 13 15).bind fun x9 =>
          (qI μ x9 21 p1 p2).bind fun x10 =>
          some (x8, x10)
        else
          some ((-4 : Int32), μ)
  else none
def lp_X12_remember_2 : Nat → Nat → Int32 → Mm → Option Mm
  | 0, _, _, _ => none
  | n+1, v0, v1, μ =>
    if (11 : Int32) ≤ v1 then
      some μ
    else
      (gP μ v0 13 26).bind fun x2 =>
      (gI μ v0 13 25).bind fun x3 =>
      (gP μ v0 13 23).bind fun x4 =>
      (aI μ x4 21 v1).bind fun x5 =>
      (qI μ x2 21 (((11 : Int32) * x3) + v1) x5).bind fun x6 =>
      lp_X12_remember_2 n v0 (v1 + 1) x6
def f_X12_remember (μ : Mm) (a0 : Nat) : Option Mm :=
  if tg μ a0 = 13 then
    (lp_X12_remember_2 BIG a0 (0 : Int32) μ).bind fun x7 =>
    (gI x7 a0 13 25).bind fun x8 =>
    (pI x7 a0 13 25 (x8 + (1 : Int32))).bind fun x9 =>
    some x9
  else none
def f_X12_walks (μ : Mm) (a0 : Nat) (p1 : Nat) (p2 : Int32) : Option Mm :=
  if tg μ a0 = 13 then
    (f_X12_treadOf μ a0 p2).bind fun x1 =>
    (aI μ p1 21 (0 : Int32)).bind fun x2 =>
    (aI μ p1 21 (1 : Int32)).bind fun x3 =>
    (gI μ a0 13 11).bind fun x4 =>
    if x4 = 0 then none else
    (qI μ p1 21 (1 : Int32) (x3 + ((x2 + x1) / x4))).bind fun x6 =>
    (gI x6 a0 13 11).bind fun x7 =>
    if x7 = 0 then none else
    (qI x6 p1 21 (0 : Int32) ((x2 + x1) - (x2 + x1) / x7 * x7)).bind fun x9 =>
    (aI x9 p1 21 (4 : Int32)).bind fun x10 =>
    (qI x9 p1 21 (4 : Int32) (x10 + x1)).bind fun x11 =>
    (aI x11 p1 21 ((5 : Int32) + p2)).bind fun x12 =>
    (qI x11 p1 21 ((5 : Int32) + p2) (x12 + (1 : Int32))).bind fun x13 =>
    (aI x13 p1 21 (3 : Int32)).bind fun x14 =>
    (aI x13 p1 21 (0 : Int32)).bind fun x15 =>
    (f_X12_isRent x13 a0 x15).bind fun x16 =>
    if x16 = 0 then
      (qI x13 p1 21 (3 : Int32) (x14 + (0 : Int32))).bind fun x18 =>
      some x18
    else
      (qI x13 p1 21 (3 : Int32) (x14 + (1 : Int32))).bind fun x19 =>
      some x19
  else none
def f_X12_walk (μ : Mm) (a0 : Nat) (p1 : Int32) : Option (Int32 × Mm) :=
  if tg μ a0 = 13 then
    (f_X12_isGuild μ a0 p1).bind fun x1 =>
    if x1 = 0 then
      some ((-1 : Int32), μ)
    else
      (gI μ a0 13 25).bind fun x3 =>
      if x3 = (60 : Int32) then
        some ((-2 : Int32), μ)
      else
        (f_X12_remember μ a0).bind fun x5 =>
        (gP x5 a0 13 23).bind fun x6 =>
        (f_X12_walks x5 a0 x6 p1).bind fun x7 =>
        (gP x7 a0 13 23).bind fun x8 =>
        (aI x7 x8 21 (0 : Int32)).bind fun x9 =>
        some (x9, x7)
  else none
def f_X12_floor (μ : Mm) (a0 : Nat) (p1 : Int32) : Option (Int32 × Mm) :=
  if tg μ a0 = 13 then
    (f_X12_in μ p1 (0 : Int32) (2 : Int32)).bind fun x1 =>
    if x1 = 0 then
      some ((-1 : Int32), μ)
    else
      (gI μ a0 13 10).bind fun x3 =>
      if x3 = 0 then
        some ((-4 : Int32), μ)
      else
        (gP μ a0 13 23).bind fun x5 =>
        (aI μ x5 21 (2 : Int32)).bind fun x6 =>
        if x6 = p1 then
          some ((-4 : Int32), μ)
        else
          (gI μ a0 13 25).bind fun x8 =>
          if x8 = (60 : Int32) then
            some ((-2 : Int32), μ)
          else
            (f_X12_remember μ a0).bind fun x10 =>
            (gP x10 a0 13 23).bind fun x11 =>
            (aI x10 x11 21 (2 : Int32)).bind fun x12 =>
            (gP x10 a0 13 23).bind fun x13 =>
            (qI x10 x13 21 (2 : Int32) p1).bind fun x14 =>
            some (x12, x14)
  else none
def lp_X12_undo_23 : Nat → Nat → Int32 → Int32 → Int32 → Mm → Option Mm
  | 0, _, _, _, _, _ => none
  | n+1, v0, v1, v2, v3, μ =>
    if (11 : Int32) ≤ v3 then
      some μ
    else
      if v2 ≤ 0 then
        some μ
      else
        (gP μ v0 13 23).bind fun x7 =>
        (gP μ v0 13 26).bind fun x8 =>
        (aI μ x8 21 (((11 : Int32) * v1) + v3)).bind fun x9 =>
        (qI μ x7 21 v3 x9).bind fun x10 =>
        lp_X12_undo_23 n v0 v1 v2 (v3 + 1) x10
def f_X12_undo (μ : Mm) (a0 : Nat) (p1 : Int32) : Option (Int32 × Mm) :=
  if tg μ a0 = 13 then
    (gI μ a0 13 25).bind fun x1 =>
    (f_X12_in μ p1 (0 : Int32) x1).bind fun x2 =>
    if x2 = 0 then
      some ((-1 : Int32), μ)
    else
      (gI μ a0 13 25).bind fun x4 =>
      (lp_X12_undo_23 BIG a0 p1 (x4 - p1) (0 : Int32) μ).bind fun x11 =>
      (pI x11 a0 13 25 p1).bind fun x12 =>
      some ((x4 - p1), x12)
  else none
def lp_X12_keep_40 : Nat → Nat → Int32 → Int32 → Mm → Option Mm
  | 0, _, _, _, _ => none
  | n+1, v0, v1, v2, μ =>
    if (6 : Int32) ≤ v2 then
      some μ
    else
      (gP μ v0 13 29).bind fun x11 =>
      (gP μ v0 13 15).bind fun x12 =>
      (aI μ x12 21 v2).bind fun x13 =>
      (qI μ x11 21 (((6 : Int32) * v1) + v2) x13).bind fun x14 =>
      lp_X12_keep_40 n v0 v1 (v2 + 1) x14
def lp_X12_keep_71 : Nat → Nat → Int32 → Int32 → Mm → Option Mm
  | 0, _, _, _, _ => none
  | n+1, v0, v1, v2, μ =>
    if (11 : Int32) ≤ v2 then
      some μ
    else
      (gP μ v0 13 30).bind fun x17 =>
      (gP μ v0 13 23).bind fun x18 =>
      (aI μ x18 21 v2).bind fun x19 =>
      (qI μ x17 21 (((11 : Int32) * v1) + v2) x19).bind fun x20 =>
      lp_X12_keep_71 n v0 v1 (v2 + 1) x20
def lp_X12_keep_102 : Nat → Nat → Int32 → Int32 → Mm → Option Mm
  | 0, _, _, _, _ => none
  | n+1, v0, v1, v2, μ =>
    (gI μ v0 13 25).bind fun x22 =>
    if ((11 : Int32) * x22) ≤ v2 then
      some μ
    else
      (gP μ v0 13 31).bind fun x24 =>
      (gP μ v0 13 26).bind fun x25 =>
      (aI μ x25 21 v2).bind fun x26 =>
      (qI μ x24 21 (((660 : Int32) * v1) + v2) x26).bind fun x27 =>
      lp_X12_keep_102 n v0 v1 (v2 + 1) x27
def f_X12_keep (μ : Mm) (a0 : Nat) (p1 : Int32) : Option (Int32 × Mm) :=
  if tg μ a0 = 13 then
    (f_X12_in μ p1 (0 : Int32) (2 : Int32)).bind fun x1 =>
    if x1 = 0 then
      some ((-1 : Int32), μ)
    else
      (gI μ a0 13 10).bind fun x3 =>
      if x3 = 0 then
        some ((-4 : Int32), μ)
      else
        (gP μ a0 13 27).bind fun x5 =>
        (qZ μ x5 23 p1 (1 : Int32)).bind fun x6 =>
        (gP x6 a0 13 28).bind fun x7 =>
        (gI x6 a0 13 25).bind fun x8 =>
        (qI x6 x7 21 p1 x8).bind fun x9 =>
        (lp_X12_keep_40 BIG a0 p1 (0 : Int32) x9).bind fun x15 =>
        (lp_X12_keep_71 BIG a0 p1 (0 : Int32) x15).bind fun x21 =>
        (lp_X12_keep_102 BIG a0 p1 (0 : Int32) x21).bind fun x28 =>
        (gI x28 a0 13 25).bind fun x29 =>
        some (x29, x28)
  else none
def lp_X12_on_38 : Nat → Nat → Int32 → Int32 → Mm → Option Mm
  | 0, _, _, _, _ => none
  | n+1, v0, v1, v2, μ =>
    if (6 : Int32) ≤ v2 then
      some μ
    else
      (gP μ v0 13 15).bind fun x10 =>
      (gP μ v0 13 29).bind fun x11 =>
      (aI μ x11 21 (((6 : Int32) * v1) + v2)).bind fun x12 =>
      (qI μ x10 21 v2 x12).bind fun x13 =>
      lp_X12_on_38 n v0 v1 (v2 + 1) x13
def lp_X12_on_69 : Nat → Nat → Int32 → Int32 → Mm → Option Mm
  | 0, _, _, _, _ => none
  | n+1, v0, v1, v2, μ =>
    if (11 : Int32) ≤ v2 then
      some μ
    else
      (gP μ v0 13 23).bind fun x16 =>
      (gP μ v0 13 30).bind fun x17 =>
      (aI μ x17 21 (((11 : Int32) * v1) + v2)).bind fun x18 =>
      (qI μ x16 21 v2 x18).bind fun x19 =>
      lp_X12_on_69 n v0 v1 (v2 + 1) x19
def lp_X12_on_100 : Nat → Nat → Int32 → Int32 → Mm → Option Mm
  | 0, _, _, _, _ => none
  | n+1, v0, v1, v2, μ =>
    (gI μ v0 13 25).bind fun x21 =>
    if ((11 : Int32) * x21) ≤ v2 then
      some μ
    else
      (gP μ v0 13 26).bind fun x23 =>
      (gP μ v0 13 31).bind fun x24 =>
      (aI μ x24 21 (((660 : Int32) * v1) + v2)).bind fun x25 =>
      (qI μ x23 21 v2 x25).bind fun x26 =>
      lp_X12_on_100 n v0 v1 (v2 + 1) x26
def f_X12_on (μ : Mm) (a0 : Nat) (p1 : Int32) : Option (Int32 × Mm) :=
  if tg μ a0 = 13 then
    (f_X12_in μ p1 (0 : Int32) (2 : Int32)).bind fun x1 =>
    if x1 = 0 then
      some ((-1 : Int32), μ)
    else
      (gP μ a0 13 27).bind fun x3 =>
      (aI μ x3 23 p1).bind fun x4 =>
      if x4 = 0 then
        (f_X12_meets μ a0 (1 : Int32)).bind fun x29 =>
        some (x29.1, x29.2)
      else
        (gP μ a0 13 28).bind fun x6 =>
        (aI μ x6 21 p1).bind fun x7 =>
        (pI μ a0 13 25 x7).bind fun x8 =>
        (lp_X12_on_38 BIG a0 p1 (0 : Int32) x8).bind fun x14 =>
        (lp_X12_on_69 BIG a0 p1 (0 : Int32) x14).bind fun x20 =>
        (lp_X12_on_100 BIG a0 p1 (0 : Int32) x20).bind fun x27 =>
        (gI x27 a0 13 25).bind fun x28 =>
        some (x28, x27)
  else none
def f_X12_hour (μ : Mm) (a0 : Nat) : Option (Int32 × Mm) :=
  if tg μ a0 = 13 then
    (gI μ a0 13 10).bind fun x1 =>
    if x1 = 0 then
      some ((-4 : Int32), μ)
    else
      (gP μ a0 13 23).bind fun x3 =>
      (aI μ x3 21 (1 : Int32)).bind fun x4 =>
      (gP μ a0 13 23).bind fun x5 =>
      (aI μ x5 21 (0 : Int32)).bind fun x6 =>
      (gI μ a0 13 11).bind fun x7 =>
      if x7 = 0 then none else
      (f_X12_tells μ a0 x4 (((12 : Int32) * x6) / x7)).bind fun x9 =>
      some (x9.1, x9.2)
  else none
def f_X12_due (μ : Mm) (a0 : Nat) : Option (Int32 × Mm) :=
  if tg μ a0 = 13 then
    (gP μ a0 13 23).bind fun x1 =>
    (aI μ x1 21 (0 : Int32)).bind fun x2 =>
    (f_X12_isRent μ a0 x2).bind fun x3 =>
    ((
      if x3 = 0 then
        some (0 : Int32)
      else
        some (1 : Int32)
     : Option Int32)).bind fun x4 =>
    (gP μ a0 13 23).bind fun x6 =>
    (aI μ x6 21 (3 : Int32)).bind fun x7 =>
    (f_X12_tells μ a0 x4 x7).bind fun x8 =>
    some (x8.1, x8.2)
  else none
def lp_X12_copyNow_2 : Nat → Nat → Int32 → Mm → Option Mm
  | 0, _, _, _ => none
  | n+1, v0, v1, μ =>
    if (11 : Int32) ≤ v1 then
      some μ
    else
      (gP μ v0 13 24).bind fun x2 =>
      (gP μ v0 13 23).bind fun x3 =>
      (aI μ x3 21 v1).bind fun x4 =>
      (qI μ x2 21 v1 x4).bind fun x5 =>
      lp_X12_copyNow_2 n v0 (v1 + 1) x5
def f_X12_copyNow (μ : Mm) (a0 : Nat) : Option Mm :=
  if tg μ a0 = 13 then
    (lp_X12_copyNow_2 BIG a0 (0 : Int32) μ).bind fun x6 =>
    some x6
  else none
def lp_X12_after_38 : Nat → Nat → Int32 → Int32 → Int32 → Mm → Option Int32
  | 0, _, _, _, _, _ => none
  | n+1, v0, v1, v2, v3, μ =>
    (gP μ v0 13 5).bind fun x8 =>
    (aI μ x8 21 v1).bind fun x9 =>
    if x9 ≤ v3 then
      some v2
    else
      if v2 = 0 then
        lp_X12_after_38 n v0 v1 (0 : Int32) (v3 + 1) μ
      else
        (f_X12_rowAt μ v0 v1 v3).bind fun x12 =>
        (f_X12_isGuild μ v0 x12).bind fun x13 =>
        if x13 = 0 then
          lp_X12_after_38 n v0 v1 (0 : Int32) (v3 + 1) μ
        else
          lp_X12_after_38 n v0 v1 (1 : Int32) (v3 + 1) μ
def lp_X12_after_93 : Nat → Nat → Int32 → Int32 → Mm → Option Mm
  | 0, _, _, _, _ => none
  | n+1, v0, v1, v3, μ =>
    (gP μ v0 13 5).bind fun x18 =>
    (aI μ x18 21 v1).bind fun x19 =>
    if x19 ≤ v3 then
      some μ
    else
      (gP μ v0 13 24).bind fun x21 =>
      (f_X12_rowAt μ v0 v1 v3).bind fun x22 =>
      (f_X12_walks μ v0 x21 x22).bind fun x23 =>
      lp_X12_after_93 n v0 v1 (v3 + 1) x23
def f_X12_after (μ : Mm) (a0 : Nat) (p1 : Int32) : Option (Int32 × Mm) :=
  if tg μ a0 = 13 then
    (f_X12_isRow μ p1).bind fun x1 =>
    if x1 = 0 then
      some ((-1 : Int32), μ)
    else
      (gI μ a0 13 10).bind fun x3 =>
      if x3 = 0 then
        some ((-4 : Int32), μ)
      else
        (gP μ a0 13 5).bind fun x5 =>
        (aI μ x5 21 p1).bind fun x6 =>
        if 0 ≤ x6 then
          (lp_X12_after_38 BIG a0 p1 (1 : Int32) (0 : Int32) μ).bind fun x15 =>
          if x15 = 0 then
            (f_X12_meets μ a0 (3 : Int32)).bind fun x32 =>
            some (x32.1, x32.2)
          else
            (f_X12_copyNow μ a0).bind fun x17 =>
            (lp_X12_after_93 BIG a0 p1 (0 : Int32) x17).bind fun x24 =>
            (gP x24 a0 13 24).bind fun x25 =>
            (aI x24 x25 21 (3 : Int32)).bind fun x26 =>
            (gP x24 a0 13 23).bind fun x27 =>
            (aI x24 x27 21 (3 : Int32)).bind fun x28 =>
            (gP x24 a0 13 24).bind fun x29 =>
            (aI x24 x29 21 (0 : Int32)).bind fun x30 =>
            (f_X12_tells x24 a0 (x26 - x28) x30).bind fun x31 =>
            some (x31.1, x31.2)
        else
          (f_X12_meets μ a0 (1 : Int32)).bind fun x33 =>
          some (x33.1, x33.2)
  else none
def lp_X12_pace_4 : Nat → Nat → Int32 → Int32 → Mm → Option Int32
  | 0, _, _, _, _ => none
  | n+1, v0, v1, v2, μ =>
    (gI μ v0 13 10).bind fun x1 =>
    if x1 ≤ v2 then
      some v1
    else
      (gP μ v0 13 23).bind fun x3 =>
      (aI μ x3 21 ((5 : Int32) + v2)).bind fun x4 =>
      lp_X12_pace_4 n v0 (v1 + x4) (v2 + 1) μ
def f_X12_pace (μ : Mm) (a0 : Nat) : Option (Int32 × Mm) :=
  if tg μ a0 = 13 then
    (lp_X12_pace_4 BIG a0 (0 : Int32) (0 : Int32) μ).bind fun x5 =>
    if x5 = 0 then
      (f_X12_meets μ a0 (4 : Int32)).bind fun x10 =>
      some (x10.1, x10.2)
    else
      (gP μ a0 13 23).bind fun x7 =>
      (aI μ x7 21 (4 : Int32)).bind fun x8 =>
      (f_X12_fraction μ a0 x8.toInt64 x5.toInt64).bind fun x9 =>
      some (x9.1, x9.2)
  else none
def lp_X12_ends_114 : Nat → Nat → Int32 → Mm → Option Mm
  | 0, _, _, _ => none
  | n+1, v0, v4, μ =>
    (gI μ v0 13 10).bind fun x26 =>
    if x26 ≤ v4 then
      some μ
    else
      (gP μ v0 13 33).bind fun x28 =>
      (gP μ v0 13 32).bind fun x29 =>
      (aI μ x29 21 v4).bind fun x30 =>
      (qI μ x28 21 v4 x30).bind fun x31 =>
      lp_X12_ends_114 n v0 (v4 + 1) x31
def f_X12_ends (μ : Mm) (a0 : Nat) (p1 : Int32) (p2 : Int32) : Option Mm :=
  if tg μ a0 = 13 then
    ((
      if p1 = 0 then
        (gL μ a0 13 37).bind fun x3 =>
        (pL μ a0 13 37 (x3 + (1 : Int64))).bind fun x4 =>
        (gI x4 a0 13 38).bind fun x5 =>
        (gP x4 a0 13 32).bind fun x6 =>
        (gI x4 a0 13 10).bind fun x7 =>
        (aI x4 x6 21 (x7 - (1 : Int32))).bind fun x8 =>
        (pI x4 a0 13 38 (x5 ||| ((1 : Int32) <<< (x8 &&& 31)))).bind fun x9 =>
        some x9
      else
        some μ
     : Option Mm)).bind fun x1 =>
    (gI x1 a0 13 35).bind fun x10 =>
    ((
      if x10 = (-9 : Int32) then
        (gI x1 a0 13 39).bind fun x17 =>
        if x17 ≤ p1 then
          some (0 : Int32)
        else
          some (1 : Int32)
      else
        (gI x1 a0 13 34).bind fun x13 =>
        if x13 = 0 then
          if p1 = 0 then
            if p2 = 0 then
              some (0 : Int32)
            else
              some (1 : Int32)
          else
            some (0 : Int32)
        else
          some (0 : Int32)
     : Option Int32)).bind fun x11 =>
    (gI x1 a0 13 39).bind fun x19 =>
    ((
      if x19 ≤ p1 then
        (gI x1 a0 13 39).bind fun x22 =>
        some x22
      else
        some p1
     : Option Int32)).bind fun x20 =>
    (pI x1 a0 13 39 x20).bind fun x23 =>
    if x11 = 0 then
      some x23
    else
      (pZ x23 a0 13 34 (1 : Int32)).bind fun x25 =>
      (lp_X12_ends_114 BIG a0 (0 : Int32) x25).bind fun x32 =>
      some x32
  else none
def lp_X12_layOrders_20 (rec : Mm → Nat → Int32 → Int32 → Int32 → Int32 → Int32 → Option Mm) : Nat → Nat → Int32 → Int32 → Int32 → Int32 → Int32 → Int32 → Mm → Option Mm
  | 0, _, _, _, _, _, _, _, _ => none
  | n+1, v0, v1, v2, v3, v4, v5, v6, μ =>
    (gI μ v0 13 10).bind fun x3 =>
    if x3 ≤ v6 then
      some μ
    else
      (f_X12_has μ v2 v6).bind fun x5 =>
      if x5 = 0 then
        (f_X12_treadOf μ v0 v6).bind fun x7 =>
        (gI μ v0 13 11).bind fun x8 =>
        if x8 = 0 then none else
        (gP μ v0 13 32).bind fun x10 =>
        (qI μ x10 21 v1 v6).bind fun x11 =>
        (f_X12_isRent x11 v0 ((v3 + x7) - (v3 + x7) / x8 * x8)).bind fun x12 =>
        ((
          if x12 = 0 then
            some (0 : Int32)
          else
            some (1 : Int32)
         : Option Int32)).bind fun x13 =>
        if v5 = 0 then
          (gI x11 v0 13 35).bind fun x17 =>
          if v6 = x17 then
            (gI x11 v0 13 36).bind fun x20 =>
            if ((v3 + x7) - (v3 + x7) / x8 * x8) = x20 then
              (rec x11 v0 (v1 + (1 : Int32)) (v2 ||| ((1 : Int32) <<< (v6 &&& 31))) ((v3 + x7) - (v3 + x7) / x8 * x8) (v4 + x13) (1 : Int32)).bind fun x23 =>
              lp_X12_layOrders_20 rec n v0 v1 v2 v3 v4 v5 (v6 + 1) x23
            else
              (rec x11 v0 (v1 + (1 : Int32)) (v2 ||| ((1 : Int32) <<< (v6 &&& 31))) ((v3 + x7) - (v3 + x7) / x8 * x8) (v4 + x13) (0 : Int32)).bind fun x22 =>
              lp_X12_layOrders_20 rec n v0 v1 v2 v3 v4 v5 (v6 + 1) x22
          else
            (rec x11 v0 (v1 + (1 : Int32)) (v2 ||| ((1 : Int32) <<< (v6 &&& 31))) ((v3 + x7) - (v3 + x7) / x8 * x8) (v4 + x13) (0 : Int32)).bind fun x19 =>
            lp_X12_layOrders_20 rec n v0 v1 v2 v3 v4 v5 (v6 + 1) x19
        else
          (rec x11 v0 (v1 + (1 : Int32)) (v2 ||| ((1 : Int32) <<< (v6 &&& 31))) ((v3 + x7) - (v3 + x7) / x8 * x8) (v4 + x13) (1 : Int32)).bind fun x16 =>
          lp_X12_layOrders_20 rec n v0 v1 v2 v3 v4 v5 (v6 + 1) x16
      else
        lp_X12_layOrders_20 rec n v0 v1 v2 v3 v4 v5 (v6 + 1) μ
def f_X12_layOrders : Nat → Mm → Nat → Int32 → Int32 → Int32 → Int32 → Int32 → Option Mm
  | 0, _, _, _, _, _, _, _ => none
  | d+1, μ, a0, p1, p2, p3, p4, p5 =>
    if tg μ a0 = 13 then
      (gI μ a0 13 10).bind fun x1 =>
      if p1 = x1 then
        (f_X12_ends μ a0 p4 p5).bind fun x25 =>
        some x25
      else
        (lp_X12_layOrders_20 (f_X12_layOrders d) BIG a0 p1 p2 p3 p4 p5 (0 : Int32) μ).bind fun x24 =>
        some x24
    else none
def f_X12_allOrders (μ : Mm) (a0 : Nat) (p1 : Int32) (p2 : Int32) : Option Mm :=
  if tg μ a0 = 13 then
    (pZ μ a0 13 34 (0 : Int32)).bind fun x1 =>
    (pI x1 a0 13 35 p1).bind fun x2 =>
    (pI x2 a0 13 36 p2).bind fun x3 =>
    (pL x3 a0 13 37 (0 : Int64)).bind fun x4 =>
    (pI x4 a0 13 38 (0 : Int32)).bind fun x5 =>
    (pI x5 a0 13 39 (1000000 : Int32)).bind fun x6 =>
    (gP x6 a0 13 23).bind fun x7 =>
    (aI x6 x7 21 (0 : Int32)).bind fun x8 =>
    (f_X12_layOrders 7 x6 a0 (0 : Int32) (0 : Int32) x8 (0 : Int32) (0 : Int32)).bind fun x9 =>
    some x9
  else none
def lp_X12_order_57 : Nat → Nat → Int32 → Int32 → Mm → Option Int32
  | 0, _, _, _, _ => none
  | n+1, v0, v1, v4, μ =>
    (gP μ v0 13 33).bind fun x13 =>
    (aI μ x13 21 v4).bind fun x14 =>
    if x14 = v1 then
      some v4
    else
      lp_X12_order_57 n v0 v1 (v4 + 1) μ
def f_X12_order (μ : Mm) (a0 : Nat) (p1 : Int32) (p2 : Int32) (p3 : Int32) : Option (Int32 × Mm) :=
  if tg μ a0 = 13 then
    (f_X12_isGuild μ a0 p1).bind fun x1 =>
    if x1 = 0 then
      some ((-1 : Int32), μ)
    else
      (f_X12_isTooth μ a0 p2).bind fun x3 =>
      if x3 = 0 then
        some ((-1 : Int32), μ)
      else
        (f_X12_isRow μ p3).bind fun x5 =>
        if x5 = 0 then
          some ((-1 : Int32), μ)
        else
          (f_X12_allOrders μ a0 p1 p2).bind fun x7 =>
          (gI x7 a0 13 34).bind fun x8 =>
          if x8 = 0 then
            some ((-9 : Int32), x7)
          else
            (gP x7 a0 13 33).bind fun x10 =>
            (gI x7 a0 13 10).bind fun x11 =>
            (f_X12_layRow x7 a0 p3 x10 x11).bind fun x12 =>
            (lp_X12_order_57 BIG a0 p1 (0 : Int32) x12).bind fun x16 =>
            some (x16, x12)
  else none
def f_X12_quiet (μ : Mm) (a0 : Nat) : Option (Int32 × Mm) :=
  if tg μ a0 = 13 then
    (gI μ a0 13 10).bind fun x1 =>
    if x1 = 0 then
      some ((-4 : Int32), μ)
    else
      (f_X12_allOrders μ a0 (-9 : Int32) (-9 : Int32)).bind fun x3 =>
      (gL x3 a0 13 37).bind fun x4 =>
      (f_X12_fraction x3 a0 x4 (1 : Int64)).bind fun x5 =>
      (gI x5.2 a0 13 38).bind fun x6 =>
      (f_X12_tells x5.2 a0 x6 (1 : Int32)).bind fun x7 =>
      some (x7.1, x7.2)
  else none
def lp_X12_cheap_22 : Nat → Nat → Int32 → Int32 → Mm → Option Int32
  | 0, _, _, _, _ => none
  | n+1, v0, v1, v2, μ =>
    (gI μ v0 13 10).bind fun x4 =>
    if x4 ≤ v2 then
      some v1
    else
      (gP μ v0 13 33).bind fun x6 =>
      (aI μ x6 21 v2).bind fun x7 =>
      lp_X12_cheap_22 n v0 (((6 : Int32) * v1) + x7) (v2 + 1) μ
def f_X12_cheap (μ : Mm) (a0 : Nat) : Option (Int32 × Mm) :=
  if tg μ a0 = 13 then
    (gI μ a0 13 10).bind fun x1 =>
    if x1 = 0 then
      some ((-4 : Int32), μ)
    else
      (f_X12_allOrders μ a0 (-9 : Int32) (-9 : Int32)).bind fun x3 =>
      (lp_X12_cheap_22 BIG a0 (0 : Int32) (0 : Int32) x3).bind fun x8 =>
      (gI x3 a0 13 39).bind fun x9 =>
      (f_X12_tells x3 a0 x8 x9).bind fun x10 =>
      some (x10.1, x10.2)
  else none
def lp_X12_layCosts_2 : Nat → Nat → Int32 → Int32 → Int32 → Mm → Option Mm
  | 0, _, _, _, _, _ => none
  | n+1, v0, v1, v2, v3, μ =>
    (gI μ v0 13 11).bind fun x1 =>
    if x1 ≤ v3 then
      some μ
    else
      (gP μ v0 13 40).bind fun x3 =>
      if v3 = v1 then
        (qI μ x3 21 v3 (0 : Int32)).bind fun x6 =>
        lp_X12_layCosts_2 n v0 v1 v2 (v3 + 1) x6
      else
        (qI μ x3 21 v3 (1000000 : Int32)).bind fun x5 =>
        lp_X12_layCosts_2 n v0 v1 v2 (v3 + 1) x5
def lp_X12_layCosts_56 : Nat → Nat → Int32 → Int32 → Int32 → Int32 → Mm → Option (Int32 × Mm)
  | 0, _, _, _, _, _, _ => none
  | n+1, v0, v2, v3, v4, v5, μ =>
    (gI μ v0 13 10).bind fun x11 =>
    if x11 ≤ v5 then
      some (v3, μ)
    else
      ((
        if v2 = 0 then
          some (1 : Int32)
        else
          (gP μ v0 13 15).bind fun x15 =>
          (aI μ x15 21 v5).bind fun x16 =>
          some x16
       : Option Int32)).bind fun x13 =>
      (gP μ v0 13 40).bind fun x17 =>
      (f_X12_treadOf μ v0 v5).bind fun x18 =>
      (gI μ v0 13 11).bind fun x19 =>
      if x19 = 0 then none else
      (aI μ x17 21 ((v4 + x18) - (v4 + x18) / x19 * x19)).bind fun x21 =>
      (gP μ v0 13 40).bind fun x22 =>
      (aI μ x22 21 v4).bind fun x23 =>
      if x23 ≤ (x13 + x21) then
        lp_X12_layCosts_56 n v0 v2 v3 v4 (v5 + 1) μ
      else
        (gP μ v0 13 40).bind fun x25 =>
        (qI μ x25 21 v4 (x13 + x21)).bind fun x26 =>
        lp_X12_layCosts_56 n v0 v2 (1 : Int32) v4 (v5 + 1) x26
def lp_X12_layCosts_44 : Nat → Nat → Int32 → Int32 → Int32 → Mm → Option (Int32 × Mm)
  | 0, _, _, _, _, _ => none
  | n+1, v0, v2, v3, v4, μ =>
    (gI μ v0 13 11).bind fun x9 =>
    if x9 ≤ v4 then
      some (v3, μ)
    else
      (lp_X12_layCosts_56 BIG v0 v2 v3 v4 (0 : Int32) μ).bind fun x27 =>
      lp_X12_layCosts_44 n v0 v2 x27.1 (v4 + 1) x27.2
def lp_X12_layCosts_35 : Nat → Nat → Int32 → Int32 → Mm → Option Mm
  | 0, _, _, _, _ => none
  | n+1, v0, v2, v3, μ =>
    if v3 = 0 then
      some μ
    else
      (lp_X12_layCosts_44 BIG v0 v2 (0 : Int32) (0 : Int32) μ).bind fun x28 =>
      lp_X12_layCosts_35 n v0 v2 x28.1 x28.2
def f_X12_layCosts (μ : Mm) (a0 : Nat) (p1 : Int32) (p2 : Int32) : Option Mm :=
  if tg μ a0 = 13 then
    (lp_X12_layCosts_2 BIG a0 p1 p2 (0 : Int32) μ).bind fun x7 =>
    (lp_X12_layCosts_35 BIG a0 p2 (1 : Int32) x7).bind fun x29 =>
    some x29
  else none
def lp_X12_fewest_48 : Nat → Nat → Int32 → Int32 → Int32 → Mm → Option Int32
  | 0, _, _, _, _, _ => none
  | n+1, v0, v2, v3, v4, μ =>
    if v4 < 0 then
      some v3
    else
      if v2 ≤ 0 then
        lp_X12_fewest_48 n v0 v2 v3 (v4 + (-1)) μ
      else
        (gP μ v0 13 40).bind fun x12 =>
        (gP μ v0 13 23).bind fun x13 =>
        (aI μ x13 21 (0 : Int32)).bind fun x14 =>
        (f_X12_treadOf μ v0 v4).bind fun x15 =>
        (gI μ v0 13 11).bind fun x16 =>
        if x16 = 0 then none else
        (aI μ x12 21 ((x14 + x15) - (x14 + x15) / x16 * x16)).bind fun x18 =>
        if x18 = (v2 - (1 : Int32)) then
          lp_X12_fewest_48 n v0 v2 v4 (v4 + (-1)) μ
        else
          lp_X12_fewest_48 n v0 v2 v3 (v4 + (-1)) μ
def f_X12_fewest (μ : Mm) (a0 : Nat) (p1 : Int32) : Option (Int32 × Mm) :=
  if tg μ a0 = 13 then
    (f_X12_isTooth μ a0 p1).bind fun x1 =>
    if x1 = 0 then
      some ((-1 : Int32), μ)
    else
      (f_X12_layCosts μ a0 p1 (0 : Int32)).bind fun x3 =>
      (gP x3 a0 13 40).bind fun x4 =>
      (gP x3 a0 13 23).bind fun x5 =>
      (aI x3 x5 21 (0 : Int32)).bind fun x6 =>
      (aI x3 x4 21 x6).bind fun x7 =>
      if x7 = (1000000 : Int32) then
        some ((-9 : Int32), x3)
      else
        (gI x3 a0 13 10).bind fun x9 =>
        (lp_X12_fewest_48 BIG a0 x7 (-9 : Int32) (x9 - (1 : Int32)) x3).bind fun x20 =>
        (f_X12_tells x3 a0 x20 x7).bind fun x21 =>
        some (x21.1, x21.2)
  else none
def f_X12_feet (μ : Mm) (a0 : Nat) (p1 : Int32) : Option (Int32 × Mm) :=
  if tg μ a0 = 13 then
    (f_X12_isTooth μ a0 p1).bind fun x1 =>
    if x1 = 0 then
      some ((-1 : Int32), μ)
    else
      (f_X12_layCosts μ a0 p1 (1 : Int32)).bind fun x3 =>
      (gP x3 a0 13 40).bind fun x4 =>
      (gP x3 a0 13 23).bind fun x5 =>
      (aI x3 x5 21 (0 : Int32)).bind fun x6 =>
      (aI x3 x4 21 x6).bind fun x7 =>
      if x7 = (1000000 : Int32) then
        some ((-9 : Int32), x3)
      else
        some (x7, x3)
  else none
def lp_X12_hadWithout_4 : Nat → Nat → Int32 → Int32 → Int32 → Mm → Option Mm
  | 0, _, _, _, _, _ => none
  | n+1, v0, v1, v2, v3, μ =>
    (gI μ v0 13 11).bind fun x1 =>
    if x1 ≤ v3 then
      some μ
    else
      (gP μ v0 13 41).bind fun x3 =>
      (gP μ v0 13 23).bind fun x4 =>
      (aI μ x4 21 (0 : Int32)).bind fun x5 =>
      if v3 = x5 then
        (qZ μ x3 23 v3 (1 : Int32)).bind fun x8 =>
        lp_X12_hadWithout_4 n v0 v1 v2 (v3 + 1) x8
      else
        (qZ μ x3 23 v3 (0 : Int32)).bind fun x7 =>
        lp_X12_hadWithout_4 n v0 v1 v2 (v3 + 1) x7
def lp_X12_hadWithout_62 : Nat → Nat → Int32 → Int32 → Int32 → Int32 → Int32 → Mm → Option (Int32 × Int32 × Mm)
  | 0, _, _, _, _, _, _, _ => none
  | n+1, v0, v1, v2, v3, v4, v5, μ =>
    (gI μ v0 13 10).bind fun x13 =>
    if x13 ≤ v5 then
      some (v2, v3, μ)
    else
      (gP μ v0 13 41).bind fun x15 =>
      (aI μ x15 23 v4).bind fun x16 =>
      if x16 = 0 then
        some (v2, v3, μ)
      else
        (f_X12_treadOf μ v0 v5).bind fun x18 =>
        (gI μ v0 13 11).bind fun x19 =>
        if x19 = 0 then none else
        if v5 = v1 then
          lp_X12_hadWithout_62 n v0 v1 v2 v3 v4 (v5 + 1) μ
        else
          (gP μ v0 13 41).bind fun x22 =>
          (aI μ x22 23 ((v4 + x18) - (v4 + x18) / x19 * x19)).bind fun x23 =>
          if x23 = 0 then
            (gP μ v0 13 41).bind fun x25 =>
            (qZ μ x25 23 ((v4 + x18) - (v4 + x18) / x19 * x19) (1 : Int32)).bind fun x26 =>
            lp_X12_hadWithout_62 n v0 v1 (v2 + 1) (1 : Int32) v4 (v5 + 1) x26
          else
            lp_X12_hadWithout_62 n v0 v1 v2 v3 v4 (v5 + 1) μ
def lp_X12_hadWithout_50 : Nat → Nat → Int32 → Int32 → Int32 → Int32 → Mm → Option (Int32 × Int32 × Mm)
  | 0, _, _, _, _, _, _ => none
  | n+1, v0, v1, v2, v3, v4, μ =>
    (gI μ v0 13 11).bind fun x11 =>
    if x11 ≤ v4 then
      some (v2, v3, μ)
    else
      (lp_X12_hadWithout_62 BIG v0 v1 v2 v3 v4 (0 : Int32) μ).bind fun x27 =>
      lp_X12_hadWithout_50 n v0 v1 x27.1 x27.2.1 (v4 + 1) x27.2.2
def lp_X12_hadWithout_41 : Nat → Nat → Int32 → Int32 → Int32 → Mm → Option (Int32 × Mm)
  | 0, _, _, _, _, _ => none
  | n+1, v0, v1, v2, v3, μ =>
    if v3 = 0 then
      some (v2, μ)
    else
      (lp_X12_hadWithout_50 BIG v0 v1 v2 (0 : Int32) (0 : Int32) μ).bind fun x28 =>
      lp_X12_hadWithout_41 n v0 v1 x28.1 x28.2.1 x28.2.2
def f_X12_hadWithout (μ : Mm) (a0 : Nat) (p1 : Int32) : Option (Int32 × Mm) :=
  if tg μ a0 = 13 then
    (lp_X12_hadWithout_4 BIG a0 p1 (1 : Int32) (0 : Int32) μ).bind fun x9 =>
    (lp_X12_hadWithout_41 BIG a0 p1 (1 : Int32) (1 : Int32) x9).bind fun x29 =>
    some (x29.1, x29.2)
  else none
def lp_X12_never_32 : Nat → Nat → Int32 → Int32 → Int32 → Mm → Option Int32
  | 0, _, _, _, _, _ => none
  | n+1, v0, v1, v2, v3, μ =>
    if v3 < 0 then
      some v2
    else
      (gP μ v0 13 41).bind fun x7 =>
      (aI μ x7 23 v3).bind fun x8 =>
      if x8 = 0 then
        lp_X12_never_32 n v0 v1 v3 (v3 + (-1)) μ
      else
        lp_X12_never_32 n v0 v1 v2 (v3 + (-1)) μ
def f_X12_never (μ : Mm) (a0 : Nat) : Option (Int32 × Mm) :=
  if tg μ a0 = 13 then
    (gI μ a0 13 10).bind fun x1 =>
    if x1 = 0 then
      some ((-4 : Int32), μ)
    else
      (gI μ a0 13 11).bind fun x3 =>
      (f_X12_hadWithout μ a0 (-9 : Int32)).bind fun x4 =>
      (gI x4.2 a0 13 11).bind fun x5 =>
      (lp_X12_never_32 BIG a0 (x3 - x4.1) (-9 : Int32) (x5 - (1 : Int32)) x4.2).bind fun x10 =>
      (f_X12_tells x4.2 a0 x10 (x3 - x4.1)).bind fun x11 =>
      some (x11.1, x11.2)
  else none
def lp_X12_keyed_21 : Nat → Nat → Int32 → Int32 → Int32 → Mm → Option (Int32 × Mm)
  | 0, _, _, _, _, _ => none
  | n+1, v0, v1, v2, v3, μ =>
    (gI μ v0 13 10).bind fun x4 =>
    if x4 ≤ v3 then
      some (v2, μ)
    else
      (f_X12_hadWithout μ v0 v3).bind fun x6 =>
      if v1 ≤ x6.1 then
        lp_X12_keyed_21 n v0 v1 (v2 ||| (0 : Int32)) (v3 + 1) x6.2
      else
        lp_X12_keyed_21 n v0 v1 (v2 ||| ((1 : Int32) <<< (v3 &&& 31))) (v3 + 1) x6.2
def f_X12_keyed (μ : Mm) (a0 : Nat) : Option (Int32 × Mm) :=
  if tg μ a0 = 13 then
    (gI μ a0 13 10).bind fun x1 =>
    if x1 = 0 then
      some ((-4 : Int32), μ)
    else
      (f_X12_hadWithout μ a0 (-9 : Int32)).bind fun x3 =>
      (lp_X12_keyed_21 BIG a0 x3.1 (0 : Int32) (0 : Int32) x3.2).bind fun x8 =>
      some (x8.1, x8.2)
  else none
def lp_X12_goneBy_4 : Nat → Nat → Int32 → Int32 → Int32 → Mm → Option Int32
  | 0, _, _, _, _, _ => none
  | n+1, v0, v1, v2, v3, μ =>
    (gI μ v0 13 10).bind fun x1 =>
    if x1 ≤ v3 then
      some v2
    else
      (f_X12_has μ v1 v3).bind fun x3 =>
      if x3 = 0 then
        lp_X12_goneBy_4 n v0 v1 (v2 + (0 : Int32)) (v3 + 1) μ
      else
        (f_X12_treadOf μ v0 v3).bind fun x5 =>
        lp_X12_goneBy_4 n v0 v1 (v2 + x5) (v3 + 1) μ
def f_X12_goneBy (μ : Mm) (a0 : Nat) (p1 : Int32) : Option Int32 :=
  if tg μ a0 = 13 then
    (lp_X12_goneBy_4 BIG a0 p1 (0 : Int32) (0 : Int32) μ).bind fun x6 =>
    (gI μ a0 13 11).bind fun x7 =>
    if x7 = 0 then none else
    some (x6 - x6 / x7 * x7)
  else none
def lp_X12_layFits_30 : Nat → Nat → Int32 → Int32 → Mm → Option Mm
  | 0, _, _, _, _ => none
  | n+1, v0, v1, v2, μ =>
    (gI μ v0 13 10).bind fun x6 =>
    if x6 ≤ v2 then
      some μ
    else
      (gP μ v0 13 46).bind fun x8 =>
      (qI μ x8 21 v2 (0 : Int32)).bind fun x9 =>
      lp_X12_layFits_30 n v0 v1 (v2 + 1) x9
def lp_X12_layFits_123 : Nat → Nat → Int32 → Int32 → Int32 → Mm → Option Mm
  | 0, _, _, _, _, _ => none
  | n+1, v0, v1, v2, v3, μ =>
    (gI μ v0 13 10).bind fun x26 =>
    if x26 ≤ v3 then
      some μ
    else
      (gP μ v0 13 46).bind fun x28 =>
      (aI μ x28 21 v3).bind fun x29 =>
      (f_X12_has μ v2 v3).bind fun x30 =>
      if x30 = 0 then
        (qI μ x28 21 v3 (x29 + (0 : Int32))).bind fun x32 =>
        lp_X12_layFits_123 n v0 v1 v2 (v3 + 1) x32
      else
        (qI μ x28 21 v3 (x29 + (1 : Int32))).bind fun x33 =>
        lp_X12_layFits_123 n v0 v1 v2 (v3 + 1) x33
def lp_X12_layFits_53 : Nat → Nat → Int32 → Int32 → Mm → Option Mm
  | 0, _, _, _, _ => none
  | n+1, v0, v1, v2, μ =>
    (gI μ v0 13 10).bind fun x11 =>
    if ((1 : Int32) <<< (x11 &&& 31)) ≤ v2 then
      some μ
    else
      (f_X12_goneBy μ v0 v2).bind fun x13 =>
      if x13 = v1 then
        (gI μ v0 13 42).bind fun x15 =>
        ((
          if x15 = 0 then
            some v2
          else
            (gI μ v0 13 43).bind fun x18 =>
            some x18
         : Option Int32)).bind fun x16 =>
        (pI μ v0 13 43 x16).bind fun x19 =>
        (gI x19 v0 13 42).bind fun x20 =>
        (pI x19 v0 13 42 (x20 + (1 : Int32))).bind fun x21 =>
        (gI x21 v0 13 44).bind fun x22 =>
        (pI x21 v0 13 44 (x22 &&& v2)).bind fun x23 =>
        (gI x23 v0 13 45).bind fun x24 =>
        (pI x23 v0 13 45 (x24 ||| v2)).bind fun x25 =>
        (lp_X12_layFits_123 BIG v0 v1 v2 (0 : Int32) x25).bind fun x34 =>
        lp_X12_layFits_53 n v0 v1 (v2 + 1) x34
      else
        lp_X12_layFits_53 n v0 v1 (v2 + 1) μ
def f_X12_layFits (μ : Mm) (a0 : Nat) (p1 : Int32) : Option Mm :=
  if tg μ a0 = 13 then
    (pI μ a0 13 42 (0 : Int32)).bind fun x1 =>
    (pI x1 a0 13 43 (-9 : Int32)).bind fun x2 =>
    (gI x2 a0 13 10).bind fun x3 =>
    (pI x2 a0 13 44 (((1 : Int32) <<< (x3 &&& 31)) - (1 : Int32))).bind fun x4 =>
    (pI x4 a0 13 45 (0 : Int32)).bind fun x5 =>
    (lp_X12_layFits_30 BIG a0 p1 (0 : Int32) x5).bind fun x10 =>
    (lp_X12_layFits_53 BIG a0 p1 (0 : Int32) x10).bind fun x35 =>
    some x35
  else none
def f_X12_fits (μ : Mm) (a0 : Nat) (p1 : Int32) : Option (Int32 × Mm) :=
  if tg μ a0 = 13 then
    (f_X12_isTooth μ a0 p1).bind fun x1 =>
    if x1 = 0 then
      some ((-1 : Int32), μ)
    else
      (f_X12_layFits μ a0 p1).bind fun x3 =>
      (gI x3 a0 13 42).bind fun x4 =>
      (f_X12_fraction x3 a0 x4.toInt64 (1 : Int64)).bind fun x5 =>
      (gI x5.2 a0 13 43).bind fun x6 =>
      (f_X12_tells x5.2 a0 x6 (1 : Int32)).bind fun x7 =>
      some (x7.1, x7.2)
  else none
def f_X12_sure (μ : Mm) (a0 : Nat) (p1 : Int32) : Option (Int32 × Mm) :=
  if tg μ a0 = 13 then
    (f_X12_isTooth μ a0 p1).bind fun x1 =>
    if x1 = 0 then
      some ((-1 : Int32), μ)
    else
      (f_X12_layFits μ a0 p1).bind fun x3 =>
      (gI x3 a0 13 42).bind fun x4 =>
      if x4 = 0 then
        (f_X12_meets x3 a0 (4 : Int32)).bind fun x10 =>
        some (x10.1, x10.2)
      else
        (gI x3 a0 13 10).bind fun x6 =>
        (gI x3 a0 13 45).bind fun x7 =>
        (gI x3 a0 13 44).bind fun x8 =>
        (f_X12_tells x3 a0 ((((1 : Int32) <<< (x6 &&& 31)) - (1 : Int32)) &&& (x7 ^^^ (-1 : Int32))) x8).bind fun x9 =>
        some (x9.1, x9.2)
  else none
def lp_X12_ask_36 : Nat → Nat → Int32 → Int32 → Int32 → Mm → Option (Int32 × Int32)
  | 0, _, _, _, _, _ => none
  | n+1, v0, v2, v3, v4, μ =>
    (gI μ v0 13 10).bind fun x6 =>
    if x6 ≤ v4 then
      some (v2, v3)
    else
      (gI μ v0 13 42).bind fun x8 =>
      (gP μ v0 13 46).bind fun x9 =>
      (aI μ x9 21 v4).bind fun x10 =>
      (gP μ v0 13 46).bind fun x11 =>
      (aI μ x11 21 v4).bind fun x12 =>
      ((
        if (x8 - x10) ≤ x12 then
          (gP μ v0 13 46).bind fun x15 =>
          (aI μ x15 21 v4).bind fun x16 =>
          some x16
        else
          some (x8 - x10)
       : Option Int32)).bind fun x13 =>
      ((
        if v3 ≤ x13 then
          some v2
        else
          some v4
       : Option Int32)).bind fun x17 =>
      if v3 ≤ x13 then
        lp_X12_ask_36 n v0 x17 v3 (v4 + 1) μ
      else
        lp_X12_ask_36 n v0 x17 x13 (v4 + 1) μ
def f_X12_ask (μ : Mm) (a0 : Nat) (p1 : Int32) : Option (Int32 × Mm) :=
  if tg μ a0 = 13 then
    (f_X12_isTooth μ a0 p1).bind fun x1 =>
    if x1 = 0 then
      some ((-1 : Int32), μ)
    else
      (f_X12_layFits μ a0 p1).bind fun x3 =>
      (gI x3 a0 13 42).bind fun x4 =>
      if x4 = 0 then
        (f_X12_meets x3 a0 (4 : Int32)).bind fun x22 =>
        some (x22.1, x22.2)
      else
        (lp_X12_ask_36 BIG a0 (0 : Int32) (1000000 : Int32) (0 : Int32) x3).bind fun x20 =>
        (f_X12_tells x3 a0 x20.2 x20.1).bind fun x21 =>
        some (x21.1, x21.2)
  else none
def lp_X12_noon_19 : Nat → Nat → Int32 → Int32 → Int32 → Mm → Option (Nat × Int32)
  | 0, _, _, _, _, _ => none
  | n+1, v0, v1, v2, v3, μ =>
    if (60 : Int32) < v3 then
      some (1, (0 : Int32))
    else
      (f_X12_treadOf μ v0 v1).bind fun x6 =>
      (gI μ v0 13 11).bind fun x7 =>
      if x7 = 0 then none else
      if ((v2 + x6) - (v2 + x6) / x7 * x7) = 0 then
        some (0, v3)
      else
        lp_X12_noon_19 n v0 v1 ((v2 + x6) - (v2 + x6) / x7 * x7) (v3 + 1) μ
def f_X12_noon (μ : Mm) (a0 : Nat) (p1 : Int32) : Option Int32 :=
  if tg μ a0 = 13 then
    (f_X12_isGuild μ a0 p1).bind fun x1 =>
    if x1 = 0 then
      some (-1 : Int32)
    else
      (gP μ a0 13 23).bind fun x3 =>
      (aI μ x3 21 (0 : Int32)).bind fun x4 =>
      (lp_X12_noon_19 BIG a0 p1 x4 (1 : Int32) μ).bind fun x10 =>
      if x10.1 = 0 then
        some x10.2
      else
        some (-9 : Int32)
  else none
def lp_X12_both_56 : Nat → Nat → Int32 → Int32 → Int32 → Int32 → Int32 → Int32 → Mm → Option (Nat × Int32 × Int32)
  | 0, _, _, _, _, _, _, _, _ => none
  | n+1, v0, v2, v4, v5, v6, v7, v8, μ =>
    if (3600 : Int32) < v8 then
      some (1, (0 : Int32), (0 : Int32))
    else
      (gI μ v0 13 11).bind fun x11 =>
      if x11 = 0 then none else
      (gI μ v0 13 11).bind fun x13 =>
      if x13 = 0 then none else
      if v2 = 0 then none else
      if ((v5 + v4) - (v5 + v4) / x13 * x13) = 0 then
        if ((v6 + v4) - (v6 + v4) / v2 * v2) = 0 then
          some (0, (v7 + ((v5 + v4) / x11)), v8)
        else
          lp_X12_both_56 n v0 v2 v4 ((v5 + v4) - (v5 + v4) / x13 * x13) ((v6 + v4) - (v6 + v4) / v2 * v2) (v7 + ((v5 + v4) / x11)) (v8 + 1) μ
      else
        lp_X12_both_56 n v0 v2 v4 ((v5 + v4) - (v5 + v4) / x13 * x13) ((v6 + v4) - (v6 + v4) / v2 * v2) (v7 + ((v5 + v4) / x11)) (v8 + 1) μ
def f_X12_both (μ : Mm) (a0 : Nat) (p1 : Int32) (p2 : Int32) (p3 : Int32) : Option (Int32 × Mm) :=
  if tg μ a0 = 13 then
    (f_X12_isGuild μ a0 p1).bind fun x1 =>
    if x1 = 0 then
      some ((-1 : Int32), μ)
    else
      (f_X12_in μ p2 (12 : Int32) (60 : Int32)).bind fun x3 =>
      if x3 = 0 then
        some ((-1 : Int32), μ)
      else
        (f_X12_in μ p3 (0 : Int32) (p2 - (1 : Int32))).bind fun x5 =>
        if x5 = 0 then
          some ((-1 : Int32), μ)
        else
          (f_X12_treadOf μ a0 p1).bind fun x7 =>
          (gP μ a0 13 23).bind fun x8 =>
          (aI μ x8 21 (0 : Int32)).bind fun x9 =>
          (lp_X12_both_56 BIG a0 p2 x7 x9 p3 (0 : Int32) (1 : Int32) μ).bind fun x18 =>
          if x18.1 = 0 then
            (f_X12_tells μ a0 x18.2.1 x18.2.2).bind fun x19 =>
            some (x19.1, x19.2)
          else
            some ((-9 : Int32), μ)
  else none
def lp_X12_rent_26 : Nat → Nat → Int32 → Int32 → Int32 → Mm → Option (Nat × Int32)
  | 0, _, _, _, _, _ => none
  | n+1, v0, v2, v3, v4, μ =>
    if (60 : Int32) < v4 then
      some (1, (0 : Int32))
    else
      (gI μ v0 13 11).bind fun x7 =>
      if x7 = 0 then none else
      (f_X12_isRent μ v0 ((v3 + v2) - (v3 + v2) / x7 * x7)).bind fun x9 =>
      if x9 = 0 then
        lp_X12_rent_26 n v0 v2 ((v3 + v2) - (v3 + v2) / x7 * x7) (v4 + 1) μ
      else
        some (0, v4)
def f_X12_rent (μ : Mm) (a0 : Nat) (p1 : Int32) : Option (Int32 × Mm) :=
  if tg μ a0 = 13 then
    (f_X12_isGuild μ a0 p1).bind fun x1 =>
    if x1 = 0 then
      some ((-1 : Int32), μ)
    else
      (f_X12_treadOf μ a0 p1).bind fun x3 =>
      (gP μ a0 13 23).bind fun x4 =>
      (aI μ x4 21 (0 : Int32)).bind fun x5 =>
      (lp_X12_rent_26 BIG a0 x3 x5 (1 : Int32) μ).bind fun x11 =>
      if x11.1 = 0 then
        (f_X12_tells μ a0 (x3 * x11.2) x11.2).bind fun x12 =>
        some (x12.1, x12.2)
      else
        some ((-9 : Int32), μ)
  else none
def lp_X12_odds_25 : Nat → Nat → Int32 → Int32 → Int64 → Int32 → Mm → Option Mm
  | 0, _, _, _, _, _, _ => none
  | n+1, v0, v1, v2, v3, v5, μ =>
    (gI μ v0 13 11).bind fun x5 =>
    if x5 ≤ v5 then
      some μ
    else
      (gP μ v0 13 47).bind fun x7 =>
      (gP μ v0 13 23).bind fun x8 =>
      (aI μ x8 21 (0 : Int32)).bind fun x9 =>
      if v5 = x9 then
        (qL μ x7 22 v5 (1 : Int64)).bind fun x12 =>
        lp_X12_odds_25 n v0 v1 v2 v3 (v5 + 1) x12
      else
        (qL μ x7 22 v5 (0 : Int64)).bind fun x11 =>
        lp_X12_odds_25 n v0 v1 v2 v3 (v5 + 1) x11
def lp_X12_odds_75 : Nat → Nat → Int32 → Int32 → Int64 → Int32 → Int32 → Mm → Option Mm
  | 0, _, _, _, _, _, _, _ => none
  | n+1, v0, v1, v2, v3, v5, v6, μ =>
    (gI μ v0 13 11).bind fun x15 =>
    if x15 ≤ v6 then
      some μ
    else
      (gP μ v0 13 48).bind fun x17 =>
      (qL μ x17 22 v6 (0 : Int64)).bind fun x18 =>
      lp_X12_odds_75 n v0 v1 v2 v3 v5 (v6 + 1) x18
def lp_X12_odds_113 : Nat → Nat → Int32 → Int32 → Int64 → Int32 → Int32 → Int32 → Mm → Option Mm
  | 0, _, _, _, _, _, _, _, _ => none
  | n+1, v0, v1, v2, v3, v5, v6, v7, μ =>
    (gI μ v0 13 10).bind fun x22 =>
    if x22 ≤ v7 then
      some μ
    else
      (gP μ v0 13 48).bind fun x24 =>
      (f_X12_treadOf μ v0 v7).bind fun x25 =>
      (gI μ v0 13 11).bind fun x26 =>
      if x26 = 0 then none else
      (aL μ x24 22 ((v6 + x25) - (v6 + x25) / x26 * x26)).bind fun x28 =>
      (gP μ v0 13 47).bind fun x29 =>
      (aL μ x29 22 v6).bind fun x30 =>
      (qL μ x24 22 ((v6 + x25) - (v6 + x25) / x26 * x26) (x28 + x30)).bind fun x31 =>
      lp_X12_odds_113 n v0 v1 v2 v3 v5 v6 (v7 + 1) x31
def lp_X12_odds_101 : Nat → Nat → Int32 → Int32 → Int64 → Int32 → Int32 → Mm → Option Mm
  | 0, _, _, _, _, _, _, _ => none
  | n+1, v0, v1, v2, v3, v5, v6, μ =>
    (gI μ v0 13 11).bind fun x20 =>
    if x20 ≤ v6 then
      some μ
    else
      (lp_X12_odds_113 BIG v0 v1 v2 v3 v5 v6 (0 : Int32) μ).bind fun x32 =>
      lp_X12_odds_101 n v0 v1 v2 v3 v5 (v6 + 1) x32
def lp_X12_odds_166 : Nat → Nat → Int32 → Int32 → Int64 → Int32 → Int32 → Mm → Option Mm
  | 0, _, _, _, _, _, _, _ => none
  | n+1, v0, v1, v2, v3, v5, v6, μ =>
    (gI μ v0 13 11).bind fun x34 =>
    if x34 ≤ v6 then
      some μ
    else
      (gP μ v0 13 47).bind fun x36 =>
      (gP μ v0 13 48).bind fun x37 =>
      (aL μ x37 22 v6).bind fun x38 =>
      (qL μ x36 22 v6 x38).bind fun x39 =>
      lp_X12_odds_166 n v0 v1 v2 v3 v5 (v6 + 1) x39
def lp_X12_odds_66 : Nat → Nat → Int32 → Int32 → Int64 → Int32 → Mm → Option (Int64 × Mm)
  | 0, _, _, _, _, _, _ => none
  | n+1, v0, v1, v2, v3, v5, μ =>
    if v2 ≤ v5 then
      some (v3, μ)
    else
      (lp_X12_odds_75 BIG v0 v1 v2 v3 v5 (0 : Int32) μ).bind fun x19 =>
      (lp_X12_odds_101 BIG v0 v1 v2 v3 v5 (0 : Int32) x19).bind fun x33 =>
      (lp_X12_odds_166 BIG v0 v1 v2 v3 v5 (0 : Int32) x33).bind fun x40 =>
      (gI x40 v0 13 10).bind fun x41 =>
      lp_X12_odds_66 n v0 v1 v2 (v3 * x41.toInt64) (v5 + 1) x40
def f_X12_odds (μ : Mm) (a0 : Nat) (p1 : Int32) (p2 : Int32) : Option (Int32 × Mm) :=
  if tg μ a0 = 13 then
    (f_X12_isTooth μ a0 p1).bind fun x1 =>
    if x1 = 0 then
      some ((-1 : Int32), μ)
    else
      (f_X12_in μ p2 (0 : Int32) (10 : Int32)).bind fun x3 =>
      if x3 = 0 then
        some ((-1 : Int32), μ)
      else
        (lp_X12_odds_25 BIG a0 p1 p2 (1 : Int64) (0 : Int32) μ).bind fun x13 =>
        (lp_X12_odds_66 BIG a0 p1 p2 (1 : Int64) (0 : Int32) x13).bind fun x42 =>
        (gP x42.2 a0 13 47).bind fun x43 =>
        (aL x42.2 x43 22 p1).bind fun x44 =>
        (f_X12_fraction x42.2 a0 x44 x42.1).bind fun x45 =>
        some (x45.1, x45.2)
  else none
def lp_X12_lots_53 : Nat → Nat → Int32 → Int64 → Int32 → Mm → Option Mm
  | 0, _, _, _, _, _ => none
  | n+1, v0, v1, v3, v5, μ =>
    if v1 ≤ v5 then
      some μ
    else
      (f_X12_remember μ v0).bind fun x10 =>
      if (lg_cmp ((((48271 : Int64) * v3) - ((48271 : Int64) * v3) / (2147483647 : Int64) * (2147483647 : Int64)) - (((48271 : Int64) * v3) - ((48271 : Int64) * v3) / (2147483647 : Int64) * (2147483647 : Int64)) / (16 : Int64) * (16 : Int64)) (0 : Int64)) = 0 then
        (gP x10 v0 13 23).bind fun x16 =>
        (gP x10 v0 13 23).bind fun x17 =>
        (aI x10 x17 21 (2 : Int32)).bind fun x18 =>
        (qI x10 x16 21 (2 : Int32) ((x18 + (1 : Int32)) - (x18 + (1 : Int32)) / (3 : Int32) * (3 : Int32))).bind fun x19 =>
        lp_X12_lots_53 n v0 v1 (((48271 : Int64) * v3) - ((48271 : Int64) * v3) / (2147483647 : Int64) * (2147483647 : Int64)) (v5 + 1) x19
      else
        (gP x10 v0 13 23).bind fun x12 =>
        (gI x10 v0 13 10).bind fun x13 =>
        if x13.toInt64 = 0 then none else
        (f_X12_walks x10 v0 x12 ((((((48271 : Int64) * v3) - ((48271 : Int64) * v3) / (2147483647 : Int64) * (2147483647 : Int64)) / (16 : Int64)) - ((((48271 : Int64) * v3) - ((48271 : Int64) * v3) / (2147483647 : Int64) * (2147483647 : Int64)) / (16 : Int64)) / x13.toInt64 * x13.toInt64).toInt32)).bind fun x15 =>
        lp_X12_lots_53 n v0 v1 (((48271 : Int64) * v3) - ((48271 : Int64) * v3) / (2147483647 : Int64) * (2147483647 : Int64)) (v5 + 1) x15
def f_X12_lots (μ : Mm) (a0 : Nat) (p1 : Int32) (p2 : Int32) : Option (Int32 × Mm) :=
  if tg μ a0 = 13 then
    (f_X12_in μ p1 (1 : Int32) (30 : Int32)).bind fun x1 =>
    if x1 = 0 then
      some ((-1 : Int32), μ)
    else
      (f_X12_in μ p2 (1 : Int32) (2147483646 : Int32)).bind fun x3 =>
      if x3 = 0 then
        some ((-1 : Int32), μ)
      else
        (gI μ a0 13 10).bind fun x5 =>
        if x5 = 0 then
          some ((-4 : Int32), μ)
        else
          (gI μ a0 13 25).bind fun x7 =>
          if (x7 + p1) ≤ (60 : Int32) then
            (lp_X12_lots_53 BIG a0 p1 p2.toInt64 (0 : Int32) μ).bind fun x20 =>
            (gP x20 a0 13 23).bind fun x21 =>
            (aI x20 x21 21 (0 : Int32)).bind fun x22 =>
            some (x22, x20)
          else
            some ((-2 : Int32), μ)
  else none
def lp_X12_counted_4 : Nat → Nat → Int32 → Int32 → Int32 → Mm → Option Int32
  | 0, _, _, _, _, _ => none
  | n+1, v0, v1, v2, v3, μ =>
    (gI μ v0 13 10).bind fun x1 =>
    if x1 ≤ v3 then
      some v2
    else
      if v1 = (7 : Int32) then
        (f_X12_isHeavy μ v0 v3).bind fun x4 =>
        if x4 = 0 then
          lp_X12_counted_4 n v0 v1 (v2 + (0 : Int32)) (v3 + 1) μ
        else
          lp_X12_counted_4 n v0 v1 (v2 + (1 : Int32)) (v3 + 1) μ
      else
        lp_X12_counted_4 n v0 v1 (v2 + (0 : Int32)) (v3 + 1) μ
def lp_X12_counted_42 : Nat → Nat → Int32 → Int32 → Int32 → Mm → Option Int32
  | 0, _, _, _, _, _ => none
  | n+1, v0, v1, v2, v3, μ =>
    if (6 : Int32) ≤ v3 then
      some v2
    else
      if v1 = (8 : Int32) then
        (gP μ v0 13 5).bind fun x9 =>
        (aI μ x9 21 v3).bind fun x10 =>
        if x10 < 0 then
          lp_X12_counted_42 n v0 v1 (v2 + (0 : Int32)) (v3 + 1) μ
        else
          lp_X12_counted_42 n v0 v1 (v2 + (1 : Int32)) (v3 + 1) μ
      else
        lp_X12_counted_42 n v0 v1 (v2 + (0 : Int32)) (v3 + 1) μ
def lp_X12_counted_79 : Nat → Nat → Int32 → Int32 → Int32 → Mm → Option Int32
  | 0, _, _, _, _, _ => none
  | n+1, v0, v1, v2, v3, μ =>
    if (4 : Int32) ≤ v3 then
      some v2
    else
      if v1 = (9 : Int32) then
        (gP μ v0 13 8).bind fun x15 =>
        (aI μ x15 21 v3).bind fun x16 =>
        if x16 < 0 then
          lp_X12_counted_79 n v0 v1 (v2 + (0 : Int32)) (v3 + 1) μ
        else
          lp_X12_counted_79 n v0 v1 (v2 + (1 : Int32)) (v3 + 1) μ
      else
        lp_X12_counted_79 n v0 v1 (v2 + (0 : Int32)) (v3 + 1) μ
def lp_X12_counted_115 : Nat → Nat → Int32 → Int32 → Int32 → Mm → Option Int32
  | 0, _, _, _, _, _ => none
  | n+1, v0, v1, v2, v3, μ =>
    if (3 : Int32) ≤ v3 then
      some v2
    else
      if v1 = (10 : Int32) then
        (gP μ v0 13 27).bind fun x21 =>
        (aI μ x21 23 v3).bind fun x22 =>
        if x22 = 0 then
          lp_X12_counted_115 n v0 v1 (v2 + (0 : Int32)) (v3 + 1) μ
        else
          lp_X12_counted_115 n v0 v1 (v2 + (1 : Int32)) (v3 + 1) μ
      else
        lp_X12_counted_115 n v0 v1 (v2 + (0 : Int32)) (v3 + 1) μ
def f_X12_counted (μ : Mm) (a0 : Nat) (p1 : Int32) : Option Int32 :=
  if tg μ a0 = 13 then
    (lp_X12_counted_4 BIG a0 p1 (0 : Int32) (0 : Int32) μ).bind fun x6 =>
    (lp_X12_counted_42 BIG a0 p1 x6 (0 : Int32) μ).bind fun x12 =>
    (lp_X12_counted_79 BIG a0 p1 x12 (0 : Int32) μ).bind fun x18 =>
    (lp_X12_counted_115 BIG a0 p1 x18 (0 : Int32) μ).bind fun x24 =>
    if p1 = (0 : Int32) then
      (gI μ a0 13 10).bind fun x26 =>
      some x26
    else
      if p1 = (1 : Int32) then
        (gI μ a0 13 11).bind fun x28 =>
        some x28
      else
        if p1 = (2 : Int32) then
          (gP μ a0 13 23).bind fun x30 =>
          (aI μ x30 21 (0 : Int32)).bind fun x31 =>
          some x31
        else
          if p1 = (3 : Int32) then
            (gP μ a0 13 23).bind fun x33 =>
            (aI μ x33 21 (1 : Int32)).bind fun x34 =>
            some x34
          else
            if p1 = (4 : Int32) then
              (gI μ a0 13 25).bind fun x36 =>
              some x36
            else
              if p1 = (5 : Int32) then
                (gP μ a0 13 23).bind fun x38 =>
                (aI μ x38 21 (2 : Int32)).bind fun x39 =>
                some x39
              else
                if p1 = (6 : Int32) then
                  (gI μ a0 13 12).bind fun x41 =>
                  some x41
                else
                  some x24
  else none
def f_X12_count (μ : Mm) (a0 : Nat) (p1 : Int32) : Option Int32 :=
  if tg μ a0 = 13 then
    (f_X12_in μ p1 (0 : Int32) (10 : Int32)).bind fun x1 =>
    if x1 = 0 then
      some (-1 : Int32)
    else
      (f_X12_counted μ a0 p1).bind fun x3 =>
      some x3
  else none
def f_X12_mix (μ : Mm) (a0 : Nat) (p1 : Int64) : Option Mm :=
  if tg μ a0 = 13 then
    (gL μ a0 13 49).bind fun x1 =>
    (pL μ a0 13 49 (((31 : Int64) * x1) + p1)).bind fun x2 =>
    some x2
  else none
def lp_X12_mixHall_23 : Nat → Nat → Int32 → Int32 → Mm → Option Mm
  | 0, _, _, _, _ => none
  | n+1, v0, v1, v2, μ =>
    if (5 : Int32) ≤ v2 then
      some μ
    else
      (f_X12_guildTells μ v0 v1 v2).bind fun x7 =>
      (f_X12_mix μ v0 x7.toInt64).bind fun x8 =>
      lp_X12_mixHall_23 n v0 v1 (v2 + 1) x8
def lp_X12_mixHall_13 : Nat → Nat → Int32 → Mm → Option Mm
  | 0, _, _, _ => none
  | n+1, v0, v1, μ =>
    (gI μ v0 13 10).bind fun x4 =>
    if x4 ≤ v1 then
      some μ
    else
      (lp_X12_mixHall_23 BIG v0 v1 (0 : Int32) μ).bind fun x9 =>
      lp_X12_mixHall_13 n v0 (v1 + 1) x9
def lp_X12_mixHall_53 : Nat → Nat → Int32 → Mm → Option Mm
  | 0, _, _, _ => none
  | n+1, v0, v1, μ =>
    if (3 : Int32) ≤ v1 then
      some μ
    else
      (gP μ v0 13 27).bind fun x12 =>
      (aI μ x12 23 v1).bind fun x13 =>
      if x13 = 0 then
        (f_X12_mix μ v0 (-1 : Int64)).bind fun x15 =>
        lp_X12_mixHall_53 n v0 (v1 + 1) x15
      else
        (gP μ v0 13 28).bind fun x16 =>
        (aI μ x16 21 v1).bind fun x17 =>
        (f_X12_mix μ v0 x17.toInt64).bind fun x18 =>
        lp_X12_mixHall_53 n v0 (v1 + 1) x18
def f_X12_mixHall (μ : Mm) (a0 : Nat) : Option Mm :=
  if tg μ a0 = 13 then
    (gP μ a0 13 23).bind fun x1 =>
    (aI μ x1 21 (3 : Int32)).bind fun x2 =>
    (f_X12_mix μ a0 x2.toInt64).bind fun x3 =>
    (lp_X12_mixHall_13 BIG a0 (0 : Int32) x3).bind fun x10 =>
    (lp_X12_mixHall_53 BIG a0 (0 : Int32) x10).bind fun x19 =>
    some x19
  else none
def lp_X12_digest_9 : Nat → Nat → Int32 → Mm → Option Mm
  | 0, _, _, _ => none
  | n+1, v0, v1, μ =>
    if (11 : Int32) ≤ v1 then
      some μ
    else
      (f_X12_counted μ v0 v1).bind fun x3 =>
      (f_X12_mix μ v0 x3.toInt64).bind fun x4 =>
      lp_X12_digest_9 n v0 (v1 + 1) x4
def lp_X12_digest_56 : Nat → Nat → Int32 → Int32 → Mm → Option Mm
  | 0, _, _, _, _ => none
  | n+1, v0, v1, v2, μ =>
    (gP μ v0 13 5).bind fun x11 =>
    (aI μ x11 21 v1).bind fun x12 =>
    if x12 ≤ v2 then
      some μ
    else
      (f_X12_rowAt μ v0 v1 v2).bind fun x14 =>
      (f_X12_mix μ v0 x14.toInt64).bind fun x15 =>
      lp_X12_digest_56 n v0 v1 (v2 + 1) x15
def lp_X12_digest_37 : Nat → Nat → Int32 → Mm → Option Mm
  | 0, _, _, _ => none
  | n+1, v0, v1, μ =>
    if (6 : Int32) ≤ v1 then
      some μ
    else
      (gP μ v0 13 5).bind fun x8 =>
      (aI μ x8 21 v1).bind fun x9 =>
      (f_X12_mix μ v0 x9.toInt64).bind fun x10 =>
      (lp_X12_digest_56 BIG v0 v1 (0 : Int32) x10).bind fun x16 =>
      lp_X12_digest_37 n v0 (v1 + 1) x16
def lp_X12_digest_109 : Nat → Nat → Int32 → Int32 → Mm → Option Mm
  | 0, _, _, _, _ => none
  | n+1, v0, v1, v2, μ =>
    (gP μ v0 13 8).bind fun x22 =>
    (aI μ x22 21 v1).bind fun x23 =>
    if x23 ≤ v2 then
      some μ
    else
      (f_X12_byteAt μ v0 v1 v2).bind fun x25 =>
      (f_X12_mix μ v0 x25.toInt64).bind fun x26 =>
      lp_X12_digest_109 n v0 v1 (v2 + 1) x26
def lp_X12_digest_91 : Nat → Nat → Int32 → Mm → Option Mm
  | 0, _, _, _ => none
  | n+1, v0, v1, μ =>
    if (4 : Int32) ≤ v1 then
      some μ
    else
      (gP μ v0 13 8).bind fun x19 =>
      (aI μ x19 21 v1).bind fun x20 =>
      (f_X12_mix μ v0 x20.toInt64).bind fun x21 =>
      (lp_X12_digest_109 BIG v0 v1 (0 : Int32) x21).bind fun x27 =>
      lp_X12_digest_91 n v0 (v1 + 1) x27
def f_X12_digest (μ : Mm) (a0 : Nat) : Option (Int64 × Mm) :=
  if tg μ a0 = 13 then
    (pL μ a0 13 49 (17 : Int64)).bind fun x1 =>
    (lp_X12_digest_9 BIG a0 (0 : Int32) x1).bind fun x5 =>
    (f_X12_mixHall x5 a0).bind fun x6 =>
    (lp_X12_digest_37 BIG a0 (0 : Int32) x6).bind fun x17 =>
    (lp_X12_digest_91 BIG a0 (0 : Int32) x17).bind fun x28 =>
    (gL x28 a0 13 49).bind fun x29 =>
    some (x29, x28)
  else none
