def f_X2_init (μ : Mm) (a0 : Nat) (p1 : Int32) : Option Mm :=
  if gt (tg μ a0) then
    (pG μ a0 1 (0 : Int32)).bind fun x1 =>
    (pG x1 a0 0 p1).bind fun x2 =>
    some x2
  else none
def f_X0_init (μ : Mm) (a0 : Nat) (p1 : Int32) : Option Mm :=
  if tg μ a0 = 1 then
    (f_X2_init μ a0 p1).bind fun x1 =>
    some x1
  else none
def f_X0_kind (μ : Mm) (a0 : Nat) : Option Int32 :=
  if tg μ a0 = 1 then
    some (3 : Int32)
  else none
def f_X0_bareTread (μ : Mm) (a0 : Nat) : Option Int32 :=
  if tg μ a0 = 1 then
    some (0 : Int32)
  else none
def f_X1_init (μ : Mm) (a0 : Nat) (p1 : Int32) : Option Mm :=
  if (tg μ a0 = 2 ∨ tg μ a0 = 10) then
    (f_X2_init μ a0 p1).bind fun x1 =>
    some x1
  else none
def f_X1_kind (μ : Mm) (a0 : Nat) : Option Int32 :=
  if (tg μ a0 = 2 ∨ tg μ a0 = 10) then
    some (2 : Int32)
  else none
def f_X1_bareTread (μ : Mm) (a0 : Nat) : Option Int32 :=
  if (tg μ a0 = 2 ∨ tg μ a0 = 10) then
    (gG μ a0 0).bind fun x1 =>
    some (x1 - (1 : Int32))
  else none
def f_X2_kind (μ : Mm) (a0 : Nat) : Option Int32 :=
  if gt (tg μ a0) then
    some (0 : Int32)
  else none
def f_X2_bareTread (μ : Mm) (a0 : Nat) : Option Int32 :=
  if gt (tg μ a0) then
    (gG μ a0 0).bind fun x1 =>
    some x1
  else none
def f_X4_bareTread (μ : Mm) (a0 : Nat) : Option Int32 :=
  if (tg μ a0 = 5 ∨ tg μ a0 = 7) then
    (gG μ a0 0).bind fun x1 =>
    some ((2 : Int32) * x1)
  else none
def f_X6_uncountedFeet (μ : Mm) (a0 : Nat) : Option Int32 :=
  if tg μ a0 = 7 then
    (gG μ a0 0).bind fun x1 =>
    some (x1 / (2 : Int32))
  else none
def f_X6_bareTread (μ : Mm) (a0 : Nat) : Option Int32 :=
  if tg μ a0 = 7 then
    (f_X4_bareTread μ a0).bind fun x1 =>
    (f_X6_uncountedFeet μ a0).bind fun x2 =>
    some (x1 - x2)
  else none
def f_X9_bareTread (μ : Mm) (a0 : Nat) : Option Int32 :=
  if tg μ a0 = 10 then
    (f_X1_bareTread μ a0).bind fun x1 =>
    some (x1 / (2 : Int32))
  else none
def fv_2_bareTread (μ : Mm) (a0 : Nat) : Option Int32 :=
  if tg μ a0 = 1 then f_X0_bareTread μ a0 else
  if tg μ a0 = 2 then f_X1_bareTread μ a0 else
  if tg μ a0 = 3 then f_X2_bareTread μ a0 else
  if tg μ a0 = 5 then f_X4_bareTread μ a0 else
  if tg μ a0 = 7 then f_X6_bareTread μ a0 else
  if tg μ a0 = 10 then f_X9_bareTread μ a0 else none
def f_X2_treadOn (μ : Mm) (a0 : Nat) (p1 : Int32) : Option Int32 :=
  if gt (tg μ a0) then
    if p1 = (2 : Int32) then
      some (0 : Int32)
    else
      if p1 = (1 : Int32) then
        (fv_2_bareTread μ a0).bind fun x4 =>
        some (x4 / (2 : Int32))
      else
        (fv_2_bareTread μ a0).bind fun x3 =>
        some x3
  else none
def f_X8_init (μ : Mm) (a0 : Nat) (p1 : Int32) : Option Mm :=
  if tg μ a0 = 9 then
    (pI μ a0 9 1 (-1 : Int32)).bind fun x1 =>
    (nA x1 21 60 (if (0 : Int32) < p1 then p1 else (0 : Int32))).bind fun x2 =>
    (pP x2.2 a0 9 0 x2.1).bind fun x3 =>
    some x3
  else none
def lp_X8_open_19 : Nat → Nat → Int32 → Int32 → Mm → Option Mm
  | 0, _, _, _, _ => none
  | n+1, v0, v2, v3, μ =>
    (gI μ v0 9 1).bind fun x4 =>
    if x4 ≤ v3 then
      some μ
    else
      (gP μ v0 9 0).bind fun x6 =>
      (qI μ x6 21 v3 v2).bind fun x7 =>
      lp_X8_open_19 n v0 v2 (v3 + 1) x7
def f_X8_open (μ : Mm) (a0 : Nat) (p1 : Int32) (p2 : Int32) : Option Mm :=
  if tg μ a0 = 9 then
    (gP μ a0 9 0).bind fun x1 =>
    if tg μ x1 = 21 then
    (zI μ x1).bind fun x2 =>
    (pI μ a0 9 1 (if (0 : Int32) < (if x2 < p1 then x2 else p1) then (if x2 < p1 then x2 else p1) else (0 : Int32))).bind fun x3 =>
    (lp_X8_open_19 BIG a0 p2 (0 : Int32) x3).bind fun x8 =>
    some x8
    else none
  else none
def lp_X3_init_78 : Nat → Nat → Int32 → Mm → Option Mm
  | 0, _, _, _ => none
  | n+1, v0, v1, μ =>
    if (6 : Int32) ≤ v1 then
      some μ
    else
      (gP μ v0 4 0).bind fun x17 =>
      (f_X2_init (nw μ 3 0) (hz μ) (1 : Int32)).bind fun x19 =>
      (qG x19 x17 v1 (hz μ)).bind fun x20 =>
      lp_X3_init_78 n v0 (v1 + 1) x20
def f_X3_init (μ : Mm) (a0 : Nat) : Option Mm :=
  if tg μ a0 = 4 then
    (nA μ 24 6 (6 : Int32)).bind fun x1 =>
    (pP x1.2 a0 4 0 x1.1).bind fun x2 =>
    (f_X8_init (nw x2 9 0) (hz x2) (60 : Int32)).bind fun x4 =>
    (pP x4 a0 4 1 (hz x2)).bind fun x5 =>
    (pI x5 a0 4 2 (0 : Int32)).bind fun x6 =>
    (pI x6 a0 4 3 (0 : Int32)).bind fun x7 =>
    (pI x7 a0 4 4 (0 : Int32)).bind fun x8 =>
    (pI x8 a0 4 5 (0 : Int32)).bind fun x9 =>
    (pI x9 a0 4 6 (0 : Int32)).bind fun x10 =>
    (pI x10 a0 4 7 (0 : Int32)).bind fun x11 =>
    (pI x11 a0 4 8 (0 : Int32)).bind fun x12 =>
    (pI x12 a0 4 9 (0 : Int32)).bind fun x13 =>
    (pI x13 a0 4 10 (0 : Int32)).bind fun x14 =>
    (pL x14 a0 4 11 (0 : Int64)).bind fun x15 =>
    (lp_X3_init_78 7 a0 (0 : Int32) x15).bind fun x21 =>
    (gP x21 a0 4 1).bind fun x22 =>
    (f_X8_open x21 x22 (0 : Int32) (0 : Int32)).bind fun x23 =>
    some x23
  else none
def f_X4_init (μ : Mm) (a0 : Nat) (p1 : Int32) : Option Mm :=
  if (tg μ a0 = 5 ∨ tg μ a0 = 7) then
    (f_X2_init μ a0 p1).bind fun x1 =>
    some x1
  else none
def f_X6_init (μ : Mm) (a0 : Nat) (p1 : Int32) : Option Mm :=
  if tg μ a0 = 7 then
    (f_X4_init μ a0 p1).bind fun x1 =>
    some x1
  else none
def f_X9_init (μ : Mm) (a0 : Nat) (p1 : Int32) : Option Mm :=
  if tg μ a0 = 10 then
    (f_X1_init μ a0 p1).bind fun x1 =>
    some x1
  else none
def f_X3_newGuild (μ : Mm) (p0 : Int32) (p1 : Int32) : Option (Nat × Mm) :=
  if p0 = (1 : Int32) then
    (f_X4_init (nw μ 5 0) (hz μ) p1).bind fun x3 =>
    some ((hz μ), x3)
  else
    if p0 = (2 : Int32) then
      (f_X1_init (nw μ 2 0) (hz μ) p1).bind fun x6 =>
      some ((hz μ), x6)
    else
      if p0 = (3 : Int32) then
        (f_X0_init (nw μ 1 0) (hz μ) p1).bind fun x9 =>
        some ((hz μ), x9)
      else
        if p0 = (4 : Int32) then
          (f_X6_init (nw μ 7 0) (hz μ) p1).bind fun x12 =>
          some ((hz μ), x12)
        else
          if p0 = (5 : Int32) then
            (f_X9_init (nw μ 10 0) (hz μ) p1).bind fun x15 =>
            some ((hz μ), x15)
          else
            (f_X2_init (nw μ 3 0) (hz μ) p1).bind fun x17 =>
            some ((hz μ), x17)
def lp_X3_build_34 : Nat → Nat → Nat → Int32 → Mm → Option Mm
  | 0, _, _, _, _ => none
  | n+1, v0, v1, v2, μ =>
    (gI μ v0 4 2).bind fun x9 =>
    if x9 ≤ v2 then
      some μ
    else
      (gP μ v0 4 0).bind fun x11 =>
      (gP μ v1 6 0).bind fun x12 =>
      (aI μ x12 21 v2).bind fun x13 =>
      (gP μ v1 6 1).bind fun x14 =>
      (aI μ x14 21 v2).bind fun x15 =>
      (f_X3_newGuild μ x13 x15).bind fun x16 =>
      (qG x16.2 x11 v2 x16.1).bind fun x17 =>
      lp_X3_build_34 n v0 v1 (v2 + 1) x17
def f_X3_build (μ : Mm) (a0 : Nat) (p1 : Nat) : Option Mm :=
  if tg μ a0 = 4 then
    (gI μ p1 6 2).bind fun x1 =>
    (pI μ a0 4 2 x1).bind fun x2 =>
    (gI x2 p1 6 3).bind fun x3 =>
    (pI x2 a0 4 3 x3).bind fun x4 =>
    (gL x4 p1 6 4).bind fun x5 =>
    (pL x4 a0 4 11 x5).bind fun x6 =>
    (gI x6 p1 6 5).bind fun x7 =>
    (pI x6 a0 4 4 x7).bind fun x8 =>
    (lp_X3_build_34 7 a0 p1 (0 : Int32) x8).bind fun x18 =>
    (gP x18 a0 4 1).bind fun x19 =>
    (f_X8_open x18 x19 (0 : Int32) (0 : Int32)).bind fun x20 =>
    some x20
  else none
def f_X3_isEmpty (μ : Mm) (a0 : Nat) : Option Int32 :=
  if tg μ a0 = 4 then
    (gI μ a0 4 2).bind fun x1 =>
    if x1 = 0 then
      some (1 : Int32)
    else
      some (0 : Int32)
  else none
def f_X3_hasGuild (μ : Mm) (a0 : Nat) (p1 : Int32) : Option Int32 :=
  if tg μ a0 = 4 then
    if p1 < 0 then
      some (0 : Int32)
    else
      (gI μ a0 4 2).bind fun x2 =>
      if x2 ≤ p1 then
        some (0 : Int32)
      else
        some (1 : Int32)
  else none
def f_X3_hasTooth (μ : Mm) (a0 : Nat) (p1 : Int32) : Option Int32 :=
  if tg μ a0 = 4 then
    if p1 < 0 then
      some (0 : Int32)
    else
      (gI μ a0 4 3).bind fun x2 =>
      if x2 ≤ p1 then
        some (0 : Int32)
      else
        some (1 : Int32)
  else none
def f_X3_hasRentAt (μ : Mm) (a0 : Nat) (p1 : Int32) : Option Int32 :=
  if tg μ a0 = 4 then
    (f_X3_hasTooth μ a0 p1).bind fun x1 =>
    if x1 = 0 then
      some (0 : Int32)
    else
      (gL μ a0 4 11).bind fun x3 =>
      if (lg_cmp ((x3.toUInt64 >>> (p1.toInt64.toUInt64 &&& Int64.toUInt64 63)).toInt64 &&& (1 : Int64)) (0 : Int64)) = 0 then
        some (0 : Int32)
      else
        some (1 : Int32)
  else none
def f_X3_hasRoomFor (μ : Mm) (a0 : Nat) (p1 : Int32) : Option Int32 :=
  if tg μ a0 = 4 then
    (gP μ a0 4 1).bind fun x1 =>
    (gI μ x1 9 1).bind fun x2 =>
    if (60 : Int32) < (x2 + p1) then
      some (0 : Int32)
    else
      some (1 : Int32)
  else none
def f_X3_treadNow (μ : Mm) (a0 : Nat) (p1 : Int32) : Option Int32 :=
  if tg μ a0 = 4 then
    (f_X3_hasGuild μ a0 p1).bind fun x1 =>
    if x1 = 0 then
      some (0 : Int32)
    else
      (gP μ a0 4 0).bind fun x3 =>
      (aP μ x3 24 p1).bind fun x4 =>
      (gI μ a0 4 7).bind fun x5 =>
      (f_X2_treadOn μ x4 x5).bind fun x6 =>
      some x6
  else none
def f_J9_floorMod_7cf53 (μ : Mm) (p0 : Int32) (p1 : Int32) : Option Int32 :=
  if p1 = 0 then none else
  if 0 ≤ (p0 ^^^ p1) then
    some (p0 - p0 / p1 * p1)
  else
    if (p0 - p0 / p1 * p1) = 0 then
      some (p0 - p0 / p1 * p1)
    else
      some ((p0 - p0 / p1 * p1) + p1)
def f_X11_remainder (μ : Mm) (p0 : Int32) (p1 : Int32) : Option Int32 :=
  if (1 : Int32) ≤ p1 then
    (f_J9_floorMod_7cf53 μ p0 p1).bind fun x2 =>
    some x2
  else
    some (0 : Int32)
def f_X3_wrap (μ : Mm) (a0 : Nat) (p1 : Int32) : Option Int32 :=
  if tg μ a0 = 4 then
    (gI μ a0 4 3).bind fun x1 =>
    (f_X11_remainder μ p1 x1).bind fun x2 =>
    some x2
  else none
def f_X3_wayTo (μ : Mm) (a0 : Nat) (p1 : Int32) : Option Int32 :=
  if tg μ a0 = 4 then
    (gI μ a0 4 5).bind fun x1 =>
    (f_X3_wrap μ a0 (p1 - x1)).bind fun x2 =>
    some x2
  else none
def f_X3_byTeeth (μ : Mm) (a0 : Nat) (p1 : Int32) : Option Int32 :=
  if tg μ a0 = 4 then
    (gI μ a0 4 3).bind fun x1 =>
    if (1 : Int32) ≤ x1 then
      (gI μ a0 4 3).bind fun x3 =>
      if x3 = 0 then none else
      some (p1 / x3)
    else
      some (0 : Int32)
  else none
def f_X3_takeWalk (μ : Mm) (a0 : Nat) (p1 : Int32) : Option Mm :=
  if tg μ a0 = 4 then
    (gP μ a0 4 0).bind fun x1 =>
    (aP μ x1 24 p1).bind fun x2 =>
    (gI μ a0 4 7).bind fun x3 =>
    (f_X2_treadOn μ x2 x3).bind fun x4 =>
    (gI μ a0 4 5).bind fun x5 =>
    (gI μ a0 4 6).bind fun x6 =>
    (f_X3_byTeeth μ a0 (x5 + x4)).bind fun x7 =>
    (pI μ a0 4 6 (x6 + x7)).bind fun x8 =>
    (f_X3_wrap x8 a0 (x5 + x4)).bind fun x9 =>
    (pI x8 a0 4 5 x9).bind fun x10 =>
    (gI x10 a0 4 8).bind fun x11 =>
    (gI x10 a0 4 5).bind fun x12 =>
    (f_X3_hasRentAt x10 a0 x12).bind fun x13 =>
    ((
      if x13 = 0 then
        some (0 : Int32)
      else
        some (1 : Int32)
     : Option Int32)).bind fun x14 =>
    (pI x10 a0 4 8 (x11 + x14)).bind fun x16 =>
    (gI x16 a0 4 9).bind fun x17 =>
    (pI x16 a0 4 9 (x17 + (1 : Int32))).bind fun x18 =>
    (gI x18 a0 4 10).bind fun x19 =>
    (pI x18 a0 4 10 (x19 + x4)).bind fun x20 =>
    (gP x20 a0 4 0).bind fun x21 =>
    (aP x20 x21 24 p1).bind fun x22 =>
    (gG x20 x22 1).bind fun x23 =>
    (pG x20 x22 1 (x23 + (1 : Int32))).bind fun x24 =>
    some x24
  else none
def f_X3_takeStep (μ : Mm) (a0 : Nat) (p1 : Int32) : Option Mm :=
  if tg μ a0 = 4 then
    if p1 < (6 : Int32) then
      (f_X3_hasGuild μ a0 p1).bind fun x2 =>
      if x2 = 0 then
        some μ
      else
        (f_X3_takeWalk μ a0 p1).bind fun x4 =>
        some x4
    else
      (pI μ a0 4 7 (p1 - (6 : Int32))).bind fun x5 =>
      some x5
  else none
def f_X8_append (μ : Mm) (a0 : Nat) (p1 : Int32) : Option (Int32 × Mm) :=
  if tg μ a0 = 9 then
    (gI μ a0 9 1).bind fun x1 =>
    if x1 < 0 then
      some ((0 : Int32), μ)
    else
      (gI μ a0 9 1).bind fun x3 =>
      (gP μ a0 9 0).bind fun x4 =>
      if tg μ x4 = 21 then
      (zI μ x4).bind fun x5 =>
      if x3 < x5 then
        (gP μ a0 9 0).bind fun x7 =>
        (gI μ a0 9 1).bind fun x8 =>
        (qI μ x7 21 x8 p1).bind fun x9 =>
        (gI x9 a0 9 1).bind fun x10 =>
        (pI x9 a0 9 1 (x10 + (1 : Int32))).bind fun x11 =>
        some ((1 : Int32), x11)
      else
        some ((0 : Int32), μ)
      else none
  else none
def f_X3_addStep (μ : Mm) (a0 : Nat) (p1 : Int32) : Option Mm :=
  if tg μ a0 = 4 then
    (gP μ a0 4 1).bind fun x1 =>
    (f_X8_append μ x1 p1).bind fun x2 =>
    if x2.1 = 0 then
      some x2.2
    else
      (f_X3_takeStep x2.2 a0 p1).bind fun x4 =>
      some x4
  else none
def lp_X3_replay_32 : Nat → Nat → Int32 → Mm → Option Mm
  | 0, _, _, _ => none
  | n+1, v0, v1, μ =>
    (gI μ v0 4 2).bind fun x7 =>
    if x7 ≤ v1 then
      some μ
    else
      (gP μ v0 4 0).bind fun x9 =>
      (aP μ x9 24 v1).bind fun x10 =>
      (pG μ x10 1 (0 : Int32)).bind fun x11 =>
      lp_X3_replay_32 n v0 (v1 + 1) x11
def lp_X3_replay_58 : Nat → Nat → Int32 → Mm → Option Mm
  | 0, _, _, _ => none
  | n+1, v0, v1, μ =>
    (gP μ v0 4 1).bind fun x13 =>
    (gI μ x13 9 1).bind fun x14 =>
    if x14 ≤ v1 then
      some μ
    else
      (gP μ v0 4 1).bind fun x16 =>
      (gP μ x16 9 0).bind fun x17 =>
      (aI μ x17 21 v1).bind fun x18 =>
      (f_X3_takeStep μ v0 x18).bind fun x19 =>
      lp_X3_replay_58 n v0 (v1 + 1) x19
def f_X3_replay (μ : Mm) (a0 : Nat) : Option Mm :=
  if tg μ a0 = 4 then
    (pI μ a0 4 5 (0 : Int32)).bind fun x1 =>
    (pI x1 a0 4 6 (0 : Int32)).bind fun x2 =>
    (pI x2 a0 4 7 (0 : Int32)).bind fun x3 =>
    (pI x3 a0 4 8 (0 : Int32)).bind fun x4 =>
    (pI x4 a0 4 9 (0 : Int32)).bind fun x5 =>
    (pI x5 a0 4 10 (0 : Int32)).bind fun x6 =>
    (lp_X3_replay_32 BIG a0 (0 : Int32) x6).bind fun x12 =>
    (lp_X3_replay_58 BIG a0 (0 : Int32) x12).bind fun x20 =>
    some x20
  else none
def lp_X3_tellFeet_2 : Nat → Nat → Nat → Int32 → Mm → Option Mm
  | 0, _, _, _, _ => none
  | n+1, v0, v1, v2, μ =>
    (gI μ v0 4 2).bind fun x1 =>
    if x1 ≤ v2 then
      some μ
    else
      if tg μ v1 = 21 then
      (zI μ v1).bind fun x3 =>
      if x3 ≤ v2 then
        some μ
      else
        (gP μ v0 4 0).bind fun x5 =>
        (aP μ x5 24 v2).bind fun x6 =>
        (gG μ x6 0).bind fun x7 =>
        (qI μ v1 21 v2 x7).bind fun x8 =>
        lp_X3_tellFeet_2 n v0 v1 (v2 + 1) x8
      else none
def f_X3_tellFeet (μ : Mm) (a0 : Nat) (p1 : Nat) : Option Mm :=
  if tg μ a0 = 4 then
    (lp_X3_tellFeet_2 BIG a0 p1 (0 : Int32) μ).bind fun x9 =>
    some x9
  else none
def f_X4_kind (μ : Mm) (a0 : Nat) : Option Int32 :=
  if (tg μ a0 = 5 ∨ tg μ a0 = 7) then
    some (1 : Int32)
  else none
def f_X6_kind (μ : Mm) (a0 : Nat) : Option Int32 :=
  if tg μ a0 = 7 then
    some (4 : Int32)
  else none
def f_X9_kind (μ : Mm) (a0 : Nat) : Option Int32 :=
  if tg μ a0 = 10 then
    some (5 : Int32)
  else none
def fv_2_kind (μ : Mm) (a0 : Nat) : Option Int32 :=
  if tg μ a0 = 1 then f_X0_kind μ a0 else
  if tg μ a0 = 2 then f_X1_kind μ a0 else
  if tg μ a0 = 3 then f_X2_kind μ a0 else
  if tg μ a0 = 5 then f_X4_kind μ a0 else
  if tg μ a0 = 7 then f_X6_kind μ a0 else
  if tg μ a0 = 10 then f_X9_kind μ a0 else none
def f_X3_detail (μ : Mm) (a0 : Nat) (p1 : Int32) (p2 : Int32) : Option Int32 :=
  if tg μ a0 = 4 then
    (f_X3_hasGuild μ a0 p1).bind fun x1 =>
    if x1 = 0 then
      some (0 : Int32)
    else
      if p2 = (0 : Int32) then
        (gP μ a0 4 0).bind fun x4 =>
        (aP μ x4 24 p1).bind fun x5 =>
        (fv_2_kind μ x5).bind fun x6 =>
        some x6
      else
        if p2 = (1 : Int32) then
          (gP μ a0 4 0).bind fun x8 =>
          (aP μ x8 24 p1).bind fun x9 =>
          (gG μ x9 0).bind fun x10 =>
          some x10
        else
          if p2 = (2 : Int32) then
            (f_X3_treadNow μ a0 p1).bind fun x12 =>
            some x12
          else
            if p2 = (3 : Int32) then
              (gP μ a0 4 0).bind fun x14 =>
              (aP μ x14 24 p1).bind fun x15 =>
              (fv_2_bareTread μ x15).bind fun x16 =>
              some x16
            else
              (gP μ a0 4 0).bind fun x17 =>
              (aP μ x17 24 p1).bind fun x18 =>
              (gG μ x18 1).bind fun x19 =>
              some x19
  else none
def lp_X3_countHeavy_4 : Nat → Nat → Int32 → Int32 → Mm → Option Int32
  | 0, _, _, _, _ => none
  | n+1, v0, v1, v2, μ =>
    (gI μ v0 4 2).bind fun x1 =>
    if x1 ≤ v2 then
      some v1
    else
      (gP μ v0 4 0).bind fun x3 =>
      (aP μ x3 24 v2).bind fun x4 =>
      (ins μ x4 [5, 7]).bind fun x5 =>
      if x5 = 0 then
        lp_X3_countHeavy_4 n v0 (v1 + (0 : Int32)) (v2 + 1) μ
      else
        lp_X3_countHeavy_4 n v0 (v1 + (1 : Int32)) (v2 + 1) μ
def f_X3_countHeavy (μ : Mm) (a0 : Nat) : Option Int32 :=
  if tg μ a0 = 4 then
    (lp_X3_countHeavy_4 BIG a0 (0 : Int32) (0 : Int32) μ).bind fun x7 =>
    some x7
  else none
def lp_X3_walksToNoon_2 : Nat → Nat → Int32 → Int32 → Mm → Option (Nat × Int32)
  | 0, _, _, _, _ => none
  | n+1, v0, v1, v2, μ =>
    (gI μ v0 4 3).bind fun x1 =>
    if x1 < v2 then
      some (1, (0 : Int32))
    else
      (gI μ v0 4 5).bind fun x3 =>
      (f_X3_wrap μ v0 (x3 + (v2 * v1))).bind fun x4 =>
      if x4 = 0 then
        some (0, v2)
      else
        lp_X3_walksToNoon_2 n v0 v1 (v2 + 1) μ
def f_X3_walksToNoon (μ : Mm) (a0 : Nat) (p1 : Int32) : Option Int32 :=
  if tg μ a0 = 4 then
    (lp_X3_walksToNoon_2 BIG a0 p1 (1 : Int32) μ).bind fun x6 =>
    if x6.1 = 0 then
      some x6.2
    else
      some (-9 : Int32)
  else none
def lp_X11_greatestDivisor_9 : Nat → Int64 → Int64 → Int32 → Mm → Option Int64
  | 0, _, _, _, _ => none
  | n+1, v4, v6, v8, μ =>
    if (100 : Int32) ≤ v8 then
      some v4
    else
      if (lg_cmp v6 (0 : Int64)) = 0 then
        some v4
      else
        if v6 = 0 then none else
        lp_X11_greatestDivisor_9 n v6 (v4 - v4 / v6 * v6) (v8 + 1) μ
def f_X11_greatestDivisor (μ : Mm) (p0 : Int64) (p2 : Int64) : Option Int64 :=
  (lp_X11_greatestDivisor_9 BIG p0 p2 (0 : Int32) μ).bind fun x4 =>
  some x4
def lp_X3_stride_9 : Nat → Nat → Int32 → Int64 → Int32 → Mm → Option Int64
  | 0, _, _, _, _, _ => none
  | n+1, v0, v1, v2, v4, μ =>
    (gI μ v0 4 2).bind fun x2 =>
    if x2 ≤ v4 then
      some v2
    else
      if v4 = v1 then
        lp_X3_stride_9 n v0 v1 v2 (v4 + 1) μ
      else
        (f_X3_treadNow μ v0 v4).bind fun x5 =>
        (f_X11_greatestDivisor μ v2 x5.toInt64).bind fun x6 =>
        lp_X3_stride_9 n v0 v1 x6 (v4 + 1) μ
def f_X3_stride (μ : Mm) (a0 : Nat) (p1 : Int32) : Option Int32 :=
  if tg μ a0 = 4 then
    (gI μ a0 4 3).bind fun x1 =>
    (lp_X3_stride_9 BIG a0 p1 x1.toInt64 (0 : Int32) μ).bind fun x7 =>
    some x7.toInt32
  else none
def f_X5_init (μ : Mm) (a0 : Nat) : Option Mm :=
  if tg μ a0 = 6 then
    (nA μ 21 6 (6 : Int32)).bind fun x1 =>
    (pP x1.2 a0 6 0 x1.1).bind fun x2 =>
    (nA x2 21 6 (6 : Int32)).bind fun x3 =>
    (pP x3.2 a0 6 1 x3.1).bind fun x4 =>
    some x4
  else none
def f_X8_has (μ : Mm) (a0 : Nat) (p1 : Int32) : Option Int32 :=
  if tg μ a0 = 9 then
    if p1 < 0 then
      some (0 : Int32)
    else
      (gI μ a0 9 1).bind fun x2 =>
      if x2 ≤ p1 then
        some (0 : Int32)
      else
        some (1 : Int32)
  else none
def lp_X5_reachesItem_0 : Nat → Nat → Nat → Mm → Option Mm
  | 0, _, _, _ => none
  | n+1, v0, v1, μ =>
    (gI μ v0 6 6).bind fun x1 =>
    (f_X8_has μ v1 x1).bind fun x2 =>
    if x2 = 0 then
      some μ
    else
      (gP μ v1 9 0).bind fun x4 =>
      (gI μ v0 6 6).bind fun x5 =>
      (aI μ x4 21 x5).bind fun x6 =>
      if x6 = (32 : Int32) then
        (gI μ v0 6 6).bind fun x8 =>
        (pI μ v0 6 6 (x8 + (1 : Int32))).bind fun x9 =>
        lp_X5_reachesItem_0 n v0 v1 x9
      else
        some μ
def f_X5_reachesItem (μ : Mm) (a0 : Nat) (p1 : Nat) : Option (Int32 × Mm) :=
  if tg μ a0 = 6 then
    (lp_X5_reachesItem_0 BIG a0 p1 μ).bind fun x10 =>
    (gI x10 a0 6 6).bind fun x11 =>
    (f_X8_has x10 p1 x11).bind fun x12 =>
    (zb x12).bind fun _ =>
    some (x12, x10)
  else none
def f_X5_readFigure (μ : Mm) (a0 : Nat) (p1 : Nat) : Option (Int32 × Mm) :=
  if tg μ a0 = 6 then
    (gI μ a0 6 6).bind fun x1 =>
    (f_X8_has μ p1 x1).bind fun x2 =>
    if x2 = 0 then
      (gI μ p1 9 1).bind fun x15 =>
      (pI μ a0 6 7 x15).bind fun x16 =>
      some ((-9 : Int32), x16)
    else
      (gP μ p1 9 0).bind fun x4 =>
      (gI μ a0 6 6).bind fun x5 =>
      (aI μ x4 21 x5).bind fun x6 =>
      if x6 < (48 : Int32) then
        (gI μ a0 6 6).bind fun x8 =>
        (pI μ a0 6 7 x8).bind fun x9 =>
        some ((-9 : Int32), x9)
      else
        if x6 ≤ (57 : Int32) then
          (gI μ a0 6 6).bind fun x11 =>
          (pI μ a0 6 6 (x11 + (1 : Int32))).bind fun x12 =>
          some ((x6 - (48 : Int32)), x12)
        else
          (gI μ a0 6 6).bind fun x13 =>
          (pI μ a0 6 7 x13).bind fun x14 =>
          some ((-9 : Int32), x14)
  else none
def f_X5_readTwoFigures (μ : Mm) (a0 : Nat) (p1 : Nat) (p2 : Int32) (p3 : Int32) : Option (Int32 × Mm) :=
  if tg μ a0 = 6 then
    (gI μ a0 6 6).bind fun x1 =>
    (f_X5_readFigure μ a0 p1).bind fun x2 =>
    (gI x2.2 a0 6 7).bind fun x3 =>
    ((
      if x3 = (-9 : Int32) then
        (f_X5_readFigure x2.2 a0 p1).bind fun x6 =>
        some (x6.1, x6.2)
      else
        some ((0 : Int32), x2.2)
     : Option (Int32 × Mm))).bind fun x4 =>
    (gI x4.2 a0 6 7).bind fun x7 =>
    if x7 = (-9 : Int32) then
      if (((10 : Int32) * x2.1) + x4.1) < p2 then
        (pI x4.2 a0 6 7 x1).bind fun x10 =>
        some ((((10 : Int32) * x2.1) + x4.1), x10)
      else
        if (((10 : Int32) * x2.1) + x4.1) ≤ p3 then
          some ((((10 : Int32) * x2.1) + x4.1), x4.2)
        else
          (pI x4.2 a0 6 7 x1).bind fun x12 =>
          some ((((10 : Int32) * x2.1) + x4.1), x12)
    else
      some ((((10 : Int32) * x2.1) + x4.1), x4.2)
  else none
def f_X5_readDial (μ : Mm) (a0 : Nat) (p1 : Nat) : Option Mm :=
  if tg μ a0 = 6 then
    (f_X5_reachesItem μ a0 p1).bind fun x1 =>
    if x1.1 = 0 then
      (gI x1.2 p1 9 1).bind fun x13 =>
      (pI x1.2 a0 6 7 x13).bind fun x14 =>
      some x14
    else
      (gP x1.2 p1 9 0).bind fun x3 =>
      (gI x1.2 a0 6 6).bind fun x4 =>
      (aI x1.2 x3 21 x4).bind fun x5 =>
      if x5 = (100 : Int32) then
        (gI x1.2 a0 6 6).bind fun x7 =>
        (pI x1.2 a0 6 6 (x7 + (1 : Int32))).bind fun x8 =>
        (f_X5_readTwoFigures x8 a0 p1 (12 : Int32) (60 : Int32)).bind fun x9 =>
        (pI x9.2 a0 6 3 x9.1).bind fun x10 =>
        some x10
      else
        (gI x1.2 a0 6 6).bind fun x11 =>
        (pI x1.2 a0 6 7 x11).bind fun x12 =>
        some x12
  else none
def f_X5_kindOf (μ : Mm) (p0 : Int32) : Option Int32 :=
  if p0 = (99 : Int32) then
    some (2 : Int32)
  else
    if p0 = (103 : Int32) then
      some (0 : Int32)
    else
      if p0 = (104 : Int32) then
        some (1 : Int32)
      else
        if p0 = (107 : Int32) then
          some (3 : Int32)
        else
          if p0 = (114 : Int32) then
            some (4 : Int32)
          else
            if p0 = (116 : Int32) then
              some (5 : Int32)
            else
              some (-9 : Int32)
def f_X5_readGuild (μ : Mm) (a0 : Nat) (p1 : Nat) : Option Mm :=
  if tg μ a0 = 6 then
    (gI μ a0 6 6).bind fun x1 =>
    (f_X8_has μ p1 x1).bind fun x2 =>
    ((
      if x2 = 0 then
        some (-9 : Int32)
      else
        (gP μ p1 9 0).bind fun x5 =>
        (gI μ a0 6 6).bind fun x6 =>
        (aI μ x5 21 x6).bind fun x7 =>
        (f_X5_kindOf μ x7).bind fun x8 =>
        some x8
     : Option Int32)).bind fun x3 =>
    if x3 = (-9 : Int32) then
      (gI μ a0 6 6).bind fun x10 =>
      (pI μ a0 6 7 x10).bind fun x11 =>
      some x11
    else
      (gI μ a0 6 2).bind fun x12 =>
      if (6 : Int32) ≤ x12 then
        (gI μ a0 6 6).bind fun x14 =>
        (pI μ a0 6 7 x14).bind fun x15 =>
        some x15
      else
        (gI μ a0 6 5).bind fun x16 =>
        if x16 ≤ 0 then
          (gI μ a0 6 6).bind fun x18 =>
          (pI μ a0 6 6 (x18 + (1 : Int32))).bind fun x19 =>
          (f_X5_readFigure x19 a0 p1).bind fun x20 =>
          ((
            if x20.1 = 0 then
              (gI x20.2 a0 6 6).bind fun x23 =>
              (pI x20.2 a0 6 7 (x23 - (1 : Int32))).bind fun x24 =>
              some x24
            else
              some x20.2
           : Option Mm)).bind fun x21 =>
          (gI x21 a0 6 7).bind fun x25 =>
          if x25 = (-9 : Int32) then
            (gP x21 a0 6 0).bind fun x27 =>
            (gI x21 a0 6 2).bind fun x28 =>
            (qI x21 x27 21 x28 x3).bind fun x29 =>
            (gP x29 a0 6 1).bind fun x30 =>
            (gI x29 a0 6 2).bind fun x31 =>
            (qI x29 x30 21 x31 x20.1).bind fun x32 =>
            (gI x32 a0 6 2).bind fun x33 =>
            (pI x32 a0 6 2 (x33 + (1 : Int32))).bind fun x34 =>
            some x34
          else
            some x21
        else
          (gI μ a0 6 6).bind fun x35 =>
          (pI μ a0 6 7 x35).bind fun x36 =>
          some x36
  else none
def f_X5_readRent (μ : Mm) (a0 : Nat) (p1 : Nat) : Option Mm :=
  if tg μ a0 = 6 then
    (gI μ a0 6 2).bind fun x1 =>
    if x1 = 0 then
      (gI μ a0 6 6).bind fun x3 =>
      (pI μ a0 6 7 x3).bind fun x4 =>
      some x4
    else
      (gI μ a0 6 5).bind fun x5 =>
      if x5 < (6 : Int32) then
        (gI μ a0 6 6).bind fun x7 =>
        (pI μ a0 6 6 (x7 + (1 : Int32))).bind fun x8 =>
        (gI x8 a0 6 6).bind fun x9 =>
        (gI x8 a0 6 3).bind fun x10 =>
        (f_X5_readTwoFigures x8 a0 p1 (1 : Int32) (x10 - (1 : Int32))).bind fun x11 =>
        (gI x11.2 a0 6 7).bind fun x12 =>
        if x12 = (-9 : Int32) then
          (gL x11.2 a0 6 4).bind fun x14 =>
          if (lg_cmp ((x14.toUInt64 >>> (x11.1.toInt64.toUInt64 &&& Int64.toUInt64 63)).toInt64 &&& (1 : Int64)) (0 : Int64)) = 0 then
            (gL x11.2 a0 6 4).bind fun x16 =>
            (pL x11.2 a0 6 4 (x16 ||| ((1 : Int64) <<< (x11.1.toInt64 &&& 63)))).bind fun x17 =>
            (gI x17 a0 6 5).bind fun x18 =>
            (pI x17 a0 6 5 (x18 + (1 : Int32))).bind fun x19 =>
            some x19
          else
            (pI x11.2 a0 6 7 x9).bind fun x20 =>
            some x20
        else
          some x11.2
      else
        (gI μ a0 6 6).bind fun x21 =>
        (pI μ a0 6 7 x21).bind fun x22 =>
        some x22
  else none
def f_X5_readItem (μ : Mm) (a0 : Nat) (p1 : Nat) : Option Mm :=
  if tg μ a0 = 6 then
    (gI μ a0 6 6).bind fun x1 =>
    (f_X8_has μ p1 x1).bind fun x2 =>
    if x2 = 0 then
      (gI μ p1 9 1).bind fun x10 =>
      (pI μ a0 6 7 x10).bind fun x11 =>
      some x11
    else
      (gP μ p1 9 0).bind fun x4 =>
      (gI μ a0 6 6).bind fun x5 =>
      (aI μ x4 21 x5).bind fun x6 =>
      if x6 = (101 : Int32) then
        (f_X5_readRent μ a0 p1).bind fun x9 =>
        some x9
      else
        (f_X5_readGuild μ a0 p1).bind fun x8 =>
        some x8
  else none
def lp_X5_read_38 : Nat → Nat → Nat → Int32 → Mm → Option Mm
  | 0, _, _, _, _ => none
  | n+1, v0, v1, v2, μ =>
    if (60 : Int32) ≤ v2 then
      some μ
    else
      (gI μ v0 6 7).bind fun x9 =>
      if x9 = (-9 : Int32) then
        (f_X5_reachesItem μ v0 v1).bind fun x11 =>
        if x11.1 = 0 then
          some x11.2
        else
          (f_X5_readItem x11.2 v0 v1).bind fun x13 =>
          lp_X5_read_38 n v0 v1 (v2 + 1) x13
      else
        some μ
def f_X5_read (μ : Mm) (a0 : Nat) (p1 : Nat) : Option (Int32 × Mm) :=
  if tg μ a0 = 6 then
    (pI μ a0 6 2 (0 : Int32)).bind fun x1 =>
    (pI x1 a0 6 3 (0 : Int32)).bind fun x2 =>
    (pL x2 a0 6 4 (0 : Int64)).bind fun x3 =>
    (pI x3 a0 6 5 (0 : Int32)).bind fun x4 =>
    (pI x4 a0 6 6 (0 : Int32)).bind fun x5 =>
    (pI x5 a0 6 7 (-9 : Int32)).bind fun x6 =>
    (f_X5_readDial x6 a0 p1).bind fun x7 =>
    (lp_X5_read_38 BIG a0 p1 (0 : Int32) x7).bind fun x14 =>
    (gI x14 a0 6 7).bind fun x15 =>
    if x15 = (-9 : Int32) then
      (gI x14 a0 6 2).bind fun x18 =>
      if x18 = 0 then
        (gI x14 p1 9 1).bind fun x21 =>
        (pI x14 a0 6 7 x21).bind fun x22 =>
        (gI x22 a0 6 7).bind fun x23 =>
        some (x23, x22)
      else
        (gI x14 a0 6 7).bind fun x20 =>
        some (x20, x14)
    else
      (gI x14 a0 6 7).bind fun x17 =>
      some (x17, x14)
  else none
def f_X7_init (μ : Mm) (a0 : Nat) : Option Mm :=
  if tg μ a0 = 8 then
    (nA μ 21 64 (64 : Int32)).bind fun x1 =>
    (pP x1.2 a0 8 0 x1.1).bind fun x2 =>
    (nA x2 21 64 (64 : Int32)).bind fun x3 =>
    (pP x3.2 a0 8 1 x3.1).bind fun x4 =>
    (nA x4 23 64 (64 : Int32)).bind fun x5 =>
    (pP x5.2 a0 8 2 x5.1).bind fun x6 =>
    (nA x6 21 64 (64 : Int32)).bind fun x7 =>
    (pP x7.2 a0 8 3 x7.1).bind fun x8 =>
    (pI x8 a0 8 4 (0 : Int32)).bind fun x9 =>
    (pI x9 a0 8 5 (0 : Int32)).bind fun x10 =>
    (pI x10 a0 8 6 (-1 : Int32)).bind fun x11 =>
    (pI x11 a0 8 7 (0 : Int32)).bind fun x12 =>
    some x12
  else none
def lp_X7_look_49 : Nat → Nat → Nat → Int32 → Int32 → Int32 → Mm → Option Mm
  | 0, _, _, _, _, _, _ => none
  | n+1, v0, v1, v2, v3, v4, μ =>
    if v3 ≤ v4 then
      some μ
    else
      (gP μ v0 8 0).bind fun x10 =>
      (gP μ v0 8 0).bind fun x11 =>
      (aI μ x11 21 v4).bind fun x12 =>
      (f_X3_treadNow μ v1 v2).bind fun x13 =>
      (f_X3_wrap μ v1 (x12 + x13)).bind fun x14 =>
      (qI μ x10 21 (v4 ||| v3) x14).bind fun x15 =>
      lp_X7_look_49 n v0 v1 v2 v3 (v4 + 1) x15
def lp_X7_look_34 : Nat → Nat → Nat → Int32 → Mm → Option Mm
  | 0, _, _, _, _ => none
  | n+1, v0, v1, v2, μ =>
    (gI μ v0 8 4).bind fun x7 =>
    if x7 ≤ v2 then
      some μ
    else
      (lp_X7_look_49 BIG v0 v1 v2 ((1 : Int32) <<< (v2 &&& 31)) (0 : Int32) μ).bind fun x16 =>
      lp_X7_look_34 n v0 v1 (v2 + 1) x16
def lp_X7_look_95 : Nat → Nat → Nat → Int32 → Mm → Option Mm
  | 0, _, _, _, _ => none
  | n+1, v0, v1, v2, μ =>
    (gI μ v0 8 5).bind fun x18 =>
    if x18 < v2 then
      some μ
    else
      (gP μ v0 8 1).bind fun x20 =>
      (gI μ v1 4 5).bind fun x21 =>
      (gP μ v0 8 0).bind fun x22 =>
      (aI μ x22 21 v2).bind fun x23 =>
      (f_X3_wrap μ v1 (x21 + x23)).bind fun x24 =>
      (qI μ x20 21 v2 x24).bind fun x25 =>
      (gP x25 v0 8 2).bind fun x26 =>
      (gP x25 v0 8 1).bind fun x27 =>
      (aI x25 x27 21 v2).bind fun x28 =>
      (f_X3_hasRentAt x25 v1 x28).bind fun x29 =>
      (qZ x25 x26 23 v2 x29).bind fun x30 =>
      lp_X7_look_95 n v0 v1 (v2 + 1) x30
def f_X7_look (μ : Mm) (a0 : Nat) (p1 : Nat) : Option Mm :=
  if tg μ a0 = 8 then
    (gI μ p1 4 2).bind fun x1 =>
    (pI μ a0 8 4 (if (6 : Int32) < x1 then (6 : Int32) else x1)).bind fun x2 =>
    (gI x2 a0 8 4).bind fun x3 =>
    (pI x2 a0 8 5 (((1 : Int32) <<< (x3 &&& 31)) - (1 : Int32))).bind fun x4 =>
    (gP x4 a0 8 0).bind fun x5 =>
    (qI x4 x5 21 (0 : Int32) (0 : Int32)).bind fun x6 =>
    (lp_X7_look_34 BIG a0 p1 (0 : Int32) x6).bind fun x17 =>
    (lp_X7_look_95 BIG a0 p1 (0 : Int32) x17).bind fun x31 =>
    some x31
  else none
def f_X7_isIn (μ : Mm) (p0 : Int32) (p1 : Int32) : Option Int32 :=
  if ((p0 >>> (p1 &&& 31)) &&& (1 : Int32)) = (1 : Int32) then
    some (1 : Int32)
  else
    some (0 : Int32)
def f_X7_wrongsBy (μ : Mm) (a0 : Nat) (p1 : Int32) (p2 : Int32) : Option Int32 :=
  if tg μ a0 = 8 then
    (gP μ a0 8 3).bind fun x1 =>
    (aI μ x1 21 (p1 ||| ((1 : Int32) <<< (p2 &&& 31)))).bind fun x2 =>
    (gP μ a0 8 2).bind fun x3 =>
    (aI μ x3 23 (p1 ||| ((1 : Int32) <<< (p2 &&& 31)))).bind fun x4 =>
    ((
      if x4 = 0 then
        some x2
      else
        some (x2 + 1)
     : Option Int32)).bind fun x5 =>
    (gI μ a0 8 6).bind fun x7 =>
    if p2 = x7 then
      (gP μ a0 8 1).bind fun x9 =>
      (aI μ x9 21 (p1 ||| ((1 : Int32) <<< (p2 &&& 31)))).bind fun x10 =>
      (gI μ a0 8 7).bind fun x11 =>
      if x10 = x11 then
        some x5
      else
        some (x5 + 1)
    else
      some x5
  else none
def lp_X7_weigh_38 : Nat → Nat → Int32 → Int32 → Int32 → Mm → Option Int32
  | 0, _, _, _, _, _ => none
  | n+1, v0, v3, v4, v5, μ =>
    (gI μ v0 8 4).bind fun x8 =>
    if x8 ≤ v5 then
      some v4
    else
      (f_X7_isIn μ v3 v5).bind fun x10 =>
      if x10 = 0 then
        (f_X7_wrongsBy μ v0 v3 v5).bind fun x12 =>
        lp_X7_weigh_38 n v0 v3 (if x12 < v4 then x12 else v4) (v5 + 1) μ
      else
        lp_X7_weigh_38 n v0 v3 v4 (v5 + 1) μ
def lp_X7_weigh_27 : Nat → Nat → Int32 → Mm → Option Mm
  | 0, _, _, _ => none
  | n+1, v0, v3, μ =>
    if v3 < 0 then
      some μ
    else
      (lp_X7_weigh_38 BIG v0 v3 (64 : Int32) (0 : Int32) μ).bind fun x13 =>
      (gP μ v0 8 3).bind fun x14 =>
      (qI μ x14 21 v3 x13).bind fun x15 =>
      lp_X7_weigh_27 n v0 (v3 + (-1)) x15
def f_X7_weigh (μ : Mm) (a0 : Nat) (p1 : Int32) (p2 : Int32) : Option Mm :=
  if tg μ a0 = 8 then
    (pI μ a0 8 6 p1).bind fun x1 =>
    (pI x1 a0 8 7 p2).bind fun x2 =>
    (gP x2 a0 8 3).bind fun x3 =>
    (gI x2 a0 8 5).bind fun x4 =>
    (qI x2 x3 21 x4 (0 : Int32)).bind fun x5 =>
    (gI x5 a0 8 5).bind fun x6 =>
    (lp_X7_weigh_27 BIG a0 (x6 - (1 : Int32)) x5).bind fun x16 =>
    some x16
  else none
def f_X7_fewestWrongs (μ : Mm) (a0 : Nat) : Option Int32 :=
  if tg μ a0 = 8 then
    (gP μ a0 8 3).bind fun x1 =>
    (aI μ x1 21 (0 : Int32)).bind fun x2 =>
    some x2
  else none
def lp_X7_firstBehind_2 : Nat → Nat → Int32 → Int32 → Mm → Option (Nat × Int32)
  | 0, _, _, _, _ => none
  | n+1, v0, v1, v2, μ =>
    (gI μ v0 8 4).bind fun x1 =>
    if x1 ≤ v2 then
      some (1, (0 : Int32))
    else
      (f_X7_isIn μ v1 v2).bind fun x3 =>
      if x3 = 0 then
        (f_X7_wrongsBy μ v0 v1 v2).bind fun x5 =>
        (gP μ v0 8 3).bind fun x6 =>
        (aI μ x6 21 v1).bind fun x7 =>
        if x5 = x7 then
          some (0, v2)
        else
          lp_X7_firstBehind_2 n v0 v1 (v2 + 1) μ
      else
        lp_X7_firstBehind_2 n v0 v1 (v2 + 1) μ
def f_X7_firstBehind (μ : Mm) (a0 : Nat) (p1 : Int32) : Option Int32 :=
  if tg μ a0 = 8 then
    (lp_X7_firstBehind_2 BIG a0 p1 (0 : Int32) μ).bind fun x9 =>
    if x9.1 = 0 then
      some x9.2
    else
      some (0 : Int32)
  else none
def f_X8_replace (μ : Mm) (a0 : Nat) (p1 : Int32) (p2 : Int32) : Option (Int32 × Mm) :=
  if tg μ a0 = 9 then
    (f_X8_has μ a0 p1).bind fun x1 =>
    if x1 = 0 then
      some ((0 : Int32), μ)
    else
      (gP μ a0 9 0).bind fun x3 =>
      (aI μ x3 21 p1).bind fun x4 =>
      (gP μ a0 9 0).bind fun x5 =>
      (qI μ x5 21 p1 p2).bind fun x6 =>
      some (x4, x6)
  else none
def lp_X7_tellFirstOrder_13 : Nat → Nat → Nat → Int32 → Int32 → Mm → Option Mm
  | 0, _, _, _, _, _ => none
  | n+1, v0, v1, v2, v3, μ =>
    (gI μ v0 8 4).bind fun x3 =>
    if x3 ≤ v3 then
      some μ
    else
      (f_X7_firstBehind μ v0 v2).bind fun x5 =>
      (f_X8_replace μ v1 v3 x5).bind fun x6 =>
      lp_X7_tellFirstOrder_13 n v0 v1 (v2 ||| ((1 : Int32) <<< (x5 &&& 31))) (v3 + 1) x6.2
def f_X7_tellFirstOrder (μ : Mm) (a0 : Nat) (p1 : Nat) : Option Mm :=
  if tg μ a0 = 8 then
    (gI μ a0 8 4).bind fun x1 =>
    (f_X8_open μ p1 x1 (0 : Int32)).bind fun x2 =>
    (lp_X7_tellFirstOrder_13 BIG a0 p1 (0 : Int32) (0 : Int32) x2).bind fun x7 =>
    some x7
  else none
def lp_X7_countQuiet_21 : Nat → Nat → Int32 → Int32 → Int32 → Mm → Option Int32
  | 0, _, _, _, _, _ => none
  | n+1, v0, v1, v2, v3, μ =>
    (gI μ v0 8 4).bind fun x5 =>
    if x5 ≤ v3 then
      some v2
    else
      (f_X7_isIn μ v1 v3).bind fun x7 =>
      if x7 = 0 then
        lp_X7_countQuiet_21 n v0 v1 v2 (v3 + 1) μ
      else
        (gP μ v0 8 3).bind fun x9 =>
        (aI μ x9 21 (v1 ^^^ ((1 : Int32) <<< (v3 &&& 31)))).bind fun x10 =>
        lp_X7_countQuiet_21 n v0 v1 (v2 + x10) (v3 + 1) μ
def lp_X7_countQuiet_9 : Nat → Nat → Int32 → Mm → Option Mm
  | 0, _, _, _ => none
  | n+1, v0, v1, μ =>
    (gI μ v0 8 5).bind fun x3 =>
    if x3 < v1 then
      some μ
    else
      (lp_X7_countQuiet_21 BIG v0 v1 (0 : Int32) (0 : Int32) μ).bind fun x11 =>
      (gP μ v0 8 3).bind fun x12 =>
      (gP μ v0 8 2).bind fun x13 =>
      (aI μ x13 23 v1).bind fun x14 =>
      if x14 = 0 then
        (qI μ x12 21 v1 x11).bind fun x16 =>
        lp_X7_countQuiet_9 n v0 (v1 + 1) x16
      else
        (qI μ x12 21 v1 (0 : Int32)).bind fun x17 =>
        lp_X7_countQuiet_9 n v0 (v1 + 1) x17
def f_X7_countQuiet (μ : Mm) (a0 : Nat) : Option (Int32 × Mm) :=
  if tg μ a0 = 8 then
    (gP μ a0 8 3).bind fun x1 =>
    (qI μ x1 21 (0 : Int32) (1 : Int32)).bind fun x2 =>
    (lp_X7_countQuiet_9 BIG a0 (1 : Int32) x2).bind fun x18 =>
    (gP x18 a0 8 3).bind fun x19 =>
    (gI x18 a0 8 5).bind fun x20 =>
    (aI x18 x19 21 x20).bind fun x21 =>
    some (x21, x18)
  else none
def lp_X7_lastInQuiet_4 : Nat → Nat → Int32 → Int32 → Mm → Option Int32
  | 0, _, _, _, _ => none
  | n+1, v0, v1, v2, μ =>
    (gI μ v0 8 4).bind fun x1 =>
    if x1 ≤ v2 then
      some v1
    else
      (gP μ v0 8 3).bind fun x3 =>
      (gI μ v0 8 5).bind fun x4 =>
      (aI μ x3 21 x4).bind fun x5 =>
      if x5 ≤ 0 then
        lp_X7_lastInQuiet_4 n v0 v1 (v2 + 1) μ
      else
        (gP μ v0 8 3).bind fun x7 =>
        (gI μ v0 8 5).bind fun x8 =>
        (aI μ x7 21 (x8 ^^^ ((1 : Int32) <<< (v2 &&& 31)))).bind fun x9 =>
        if x9 ≤ 0 then
          lp_X7_lastInQuiet_4 n v0 v1 (v2 + 1) μ
        else
          lp_X7_lastInQuiet_4 n v0 (v1 ||| ((1 : Int32) <<< (v2 &&& 31))) (v2 + 1) μ
def f_X7_lastInQuiet (μ : Mm) (a0 : Nat) : Option Int32 :=
  if tg μ a0 = 8 then
    (lp_X7_lastInQuiet_4 BIG a0 (0 : Int32) (0 : Int32) μ).bind fun x11 =>
    some x11
  else none
def lp_X7_firstFit_2 : Nat → Nat → Int32 → Int32 → Mm → Option (Nat × Int32)
  | 0, _, _, _, _ => none
  | n+1, v0, v1, v2, μ =>
    (gI μ v0 8 5).bind fun x1 =>
    if x1 < v2 then
      some (1, (0 : Int32))
    else
      (gP μ v0 8 0).bind fun x3 =>
      (aI μ x3 21 v2).bind fun x4 =>
      if x4 = v1 then
        some (0, v2)
      else
        lp_X7_firstFit_2 n v0 v1 (v2 + 1) μ
def f_X7_firstFit (μ : Mm) (a0 : Nat) (p1 : Int32) : Option Int32 :=
  if tg μ a0 = 8 then
    (lp_X7_firstFit_2 BIG a0 p1 (0 : Int32) μ).bind fun x6 =>
    if x6.1 = 0 then
      some x6.2
    else
      some (-9 : Int32)
  else none
def lp_X7_countFits_5 : Nat → Nat → Int32 → Int32 → Int32 → Int32 → Mm → Option Int32
  | 0, _, _, _, _, _, _ => none
  | n+1, v0, v1, v2, v3, v4, μ =>
    (gI μ v0 8 5).bind fun x1 =>
    if x1 < v4 then
      some v3
    else
      (gP μ v0 8 0).bind fun x3 =>
      (aI μ x3 21 v4).bind fun x4 =>
      if x4 = v1 then
        if (v4 &&& v2) = v2 then
          lp_X7_countFits_5 n v0 v1 v2 (v3 + 1) (v4 + 1) μ
        else
          lp_X7_countFits_5 n v0 v1 v2 v3 (v4 + 1) μ
      else
        lp_X7_countFits_5 n v0 v1 v2 v3 (v4 + 1) μ
def f_X7_countFits (μ : Mm) (a0 : Nat) (p1 : Int32) (p2 : Int32) : Option Int32 :=
  if tg μ a0 = 8 then
    (lp_X7_countFits_5 BIG a0 p1 p2 (0 : Int32) (0 : Int32) μ).bind fun x7 =>
    some x7
  else none
def f_X8_isThere (μ : Mm) (a0 : Nat) : Option Int32 :=
  if tg μ a0 = 9 then
    (gI μ a0 9 1).bind fun x1 =>
    if x1 < 0 then
      some (0 : Int32)
    else
      some (1 : Int32)
  else none
def f_X8_close (μ : Mm) (a0 : Nat) : Option Mm :=
  if tg μ a0 = 9 then
    (pI μ a0 9 1 (-1 : Int32)).bind fun x1 =>
    some x1
  else none
def lp_X8_takeFrom_18 : Nat → Nat → Nat → Int32 → Mm → Option Mm
  | 0, _, _, _, _ => none
  | n+1, v0, v1, v2, μ =>
    (gI μ v0 9 1).bind fun x5 =>
    if x5 ≤ v2 then
      some μ
    else
      (gP μ v0 9 0).bind fun x7 =>
      (gP μ v1 9 0).bind fun x8 =>
      (aI μ x8 21 v2).bind fun x9 =>
      (qI μ x7 21 v2 x9).bind fun x10 =>
      lp_X8_takeFrom_18 n v0 v1 (v2 + 1) x10
def f_X8_takeFrom (μ : Mm) (a0 : Nat) (p1 : Nat) : Option Mm :=
  if tg μ a0 = 9 then
    (gI μ p1 9 1).bind fun x1 =>
    (gP μ a0 9 0).bind fun x2 =>
    if tg μ x2 = 21 then
    (zI μ x2).bind fun x3 =>
    (pI μ a0 9 1 (if x3 < x1 then x3 else x1)).bind fun x4 =>
    (lp_X8_takeFrom_18 BIG a0 p1 (0 : Int32) x4).bind fun x11 =>
    some x11
    else none
  else none
def lp_X8_placeOf_2 : Nat → Nat → Int32 → Int32 → Mm → Option (Nat × Int32)
  | 0, _, _, _, _ => none
  | n+1, v0, v1, v2, μ =>
    (gI μ v0 9 1).bind fun x1 =>
    if x1 ≤ v2 then
      some (1, (0 : Int32))
    else
      (gP μ v0 9 0).bind fun x3 =>
      (aI μ x3 21 v2).bind fun x4 =>
      if x4 = v1 then
        some (0, v2)
      else
        lp_X8_placeOf_2 n v0 v1 (v2 + 1) μ
def f_X8_placeOf (μ : Mm) (a0 : Nat) (p1 : Int32) : Option Int32 :=
  if tg μ a0 = 9 then
    (lp_X8_placeOf_2 BIG a0 p1 (0 : Int32) μ).bind fun x6 =>
    if x6.1 = 0 then
      some x6.2
    else
      some (-9 : Int32)
  else none
def lp_X8_mixInto_15 : Nat → Nat → Int64 → Int32 → Mm → Option Int64
  | 0, _, _, _, _ => none
  | n+1, v0, v3, v5, μ =>
    (gI μ v0 9 1).bind fun x2 =>
    if x2 ≤ v5 then
      some v3
    else
      (gP μ v0 9 0).bind fun x4 =>
      (aI μ x4 21 v5).bind fun x5 =>
      lp_X8_mixInto_15 n v0 (((31 : Int64) * v3) + x5.toInt64) (v5 + 1) μ
def f_X8_mixInto (μ : Mm) (a0 : Nat) (p1 : Int64) : Option Int64 :=
  if tg μ a0 = 9 then
    (gI μ a0 9 1).bind fun x1 =>
    (lp_X8_mixInto_15 BIG a0 (((31 : Int64) * p1) + x1.toInt64) (0 : Int32) μ).bind fun x6 =>
    some x6
  else none
def f_X10_init (μ : Mm) (a0 : Nat) : Option Mm :=
  if tg μ a0 = 11 then
    (nA μ 21 60 (60 : Int32)).bind fun x1 =>
    (pP x1.2 a0 11 0 x1.1).bind fun x2 =>
    (nA x2 22 60 (60 : Int32)).bind fun x3 =>
    (pP x3.2 a0 11 1 x3.1).bind fun x4 =>
    (nA x4 22 60 (60 : Int32)).bind fun x5 =>
    (pP x5.2 a0 11 2 x5.1).bind fun x6 =>
    some x6
  else none
def lp_X10_spread_6 : Nat → Nat → Nat → Int32 → Int32 → Int32 → Int32 → Mm → Option (Int32 × Mm)
  | 0, _, _, _, _, _, _, _ => none
  | n+1, v0, v1, v2, v3, v4, v5, μ =>
    (gI μ v1 4 3).bind fun x1 =>
    if x1 ≤ v5 then
      some (v4, μ)
    else
      (f_X3_wrap μ v1 (v5 + v2)).bind fun x3 =>
      (gP μ v0 11 0).bind fun x4 =>
      (aI μ x4 21 v5).bind fun x5 =>
      (gP μ v0 11 0).bind fun x6 =>
      (aI μ x6 21 x3).bind fun x7 =>
      if x7 ≤ (x5 + v3) then
        lp_X10_spread_6 n v0 v1 v2 v3 v4 (v5 + 1) μ
      else
        (gP μ v0 11 0).bind fun x9 =>
        (gP μ v0 11 0).bind fun x10 =>
        (aI μ x10 21 v5).bind fun x11 =>
        (qI μ x9 21 x3 (x11 + v3)).bind fun x12 =>
        lp_X10_spread_6 n v0 v1 v2 v3 (1 : Int32) (v5 + 1) x12
def f_X10_spread (μ : Mm) (a0 : Nat) (p1 : Nat) (p2 : Int32) (p3 : Int32) : Option (Int32 × Mm) :=
  if tg μ a0 = 11 then
    (lp_X10_spread_6 BIG a0 p1 p2 p3 (0 : Int32) (0 : Int32) μ).bind fun x13 =>
    (zb x13.1).bind fun _ =>
    some (x13.1, x13.2)
  else none
def lp_X10_findCosts_2 : Nat → Nat → Nat → Int32 → Int32 → Mm → Option Mm
  | 0, _, _, _, _, _ => none
  | n+1, v0, v1, v2, v3, μ =>
    if (60 : Int32) ≤ v3 then
      some μ
    else
      (gP μ v0 11 0).bind fun x2 =>
      if v3 = 0 then
        (qI μ x2 21 v3 (0 : Int32)).bind fun x5 =>
        lp_X10_findCosts_2 n v0 v1 v2 (v3 + 1) x5
      else
        (qI μ x2 21 v3 (1000000 : Int32)).bind fun x4 =>
        lp_X10_findCosts_2 n v0 v1 v2 (v3 + 1) x4
def lp_X10_findCosts_51 : Nat → Nat → Nat → Int32 → Int32 → Int32 → Int32 → Mm → Option (Int32 × Mm)
  | 0, _, _, _, _, _, _, _ => none
  | n+1, v0, v1, v2, v3, v4, v5, μ =>
    (gI μ v1 4 2).bind fun x9 =>
    if x9 ≤ v5 then
      some (v3, μ)
    else
      ((
        if v2 = 0 then
          some (1 : Int32)
        else
          (gP μ v1 4 0).bind fun x13 =>
          (aP μ x13 24 v5).bind fun x14 =>
          (gG μ x14 0).bind fun x15 =>
          some x15
       : Option Int32)).bind fun x11 =>
      (f_X3_treadNow μ v1 v5).bind fun x16 =>
      (f_X10_spread μ v0 v1 x16 x11).bind fun x17 =>
      lp_X10_findCosts_51 n v0 v1 v2 (v3 ||| x17.1) v4 (v5 + 1) x17.2
def lp_X10_findCosts_35 : Nat → Nat → Nat → Int32 → Int32 → Int32 → Mm → Option Mm
  | 0, _, _, _, _, _, _ => none
  | n+1, v0, v1, v2, v3, v4, μ =>
    if (60 : Int32) ≤ v4 then
      some μ
    else
      if v3 = 0 then
        some μ
      else
        (lp_X10_findCosts_51 BIG v0 v1 v2 (0 : Int32) v4 (0 : Int32) μ).bind fun x18 =>
        lp_X10_findCosts_35 n v0 v1 v2 x18.1 (v4 + 1) x18.2
def f_X10_findCosts (μ : Mm) (a0 : Nat) (p1 : Nat) (p2 : Int32) : Option Mm :=
  if tg μ a0 = 11 then
    (lp_X10_findCosts_2 BIG a0 p1 p2 (0 : Int32) μ).bind fun x6 =>
    (lp_X10_findCosts_35 BIG a0 p1 p2 (1 : Int32) (0 : Int32) x6).bind fun x19 =>
    some x19
  else none
def f_X10_costOf (μ : Mm) (a0 : Nat) (p1 : Int32) : Option Int32 :=
  if tg μ a0 = 11 then
    (gP μ a0 11 0).bind fun x1 =>
    (aI μ x1 21 p1).bind fun x2 =>
    if x2 < (1000000 : Int32) then
      (gP μ a0 11 0).bind fun x4 =>
      (aI μ x4 21 p1).bind fun x5 =>
      some x5
    else
      some (-9 : Int32)
  else none
def lp_X10_firstWalker_2 : Nat → Nat → Nat → Int32 → Int32 → Mm → Option (Nat × Int32)
  | 0, _, _, _, _, _ => none
  | n+1, v0, v1, v2, v3, μ =>
    (gI μ v1 4 2).bind fun x1 =>
    if x1 ≤ v3 then
      some (1, (0 : Int32))
    else
      (gP μ v0 11 0).bind fun x3 =>
      (f_X3_treadNow μ v1 v3).bind fun x4 =>
      (f_X3_wrap μ v1 (v2 - x4)).bind fun x5 =>
      (aI μ x3 21 x5).bind fun x6 =>
      (gP μ v0 11 0).bind fun x7 =>
      (aI μ x7 21 v2).bind fun x8 =>
      if x6 = (x8 - (1 : Int32)) then
        some (0, v3)
      else
        lp_X10_firstWalker_2 n v0 v1 v2 (v3 + 1) μ
def f_X10_firstWalker (μ : Mm) (a0 : Nat) (p1 : Nat) (p2 : Int32) : Option Int32 :=
  if tg μ a0 = 11 then
    (lp_X10_firstWalker_2 BIG a0 p1 p2 (0 : Int32) μ).bind fun x10 =>
    if x10.1 = 0 then
      some x10.2
    else
      some (-9 : Int32)
  else none
def lp_X10_countOneMore_2 : Nat → Nat → Nat → Int32 → Mm → Option Mm
  | 0, _, _, _, _ => none
  | n+1, v0, v1, v2, μ =>
    if (60 : Int32) ≤ v2 then
      some μ
    else
      (gP μ v0 11 2).bind fun x2 =>
      (gP μ v0 11 1).bind fun x3 =>
      (aL μ x3 22 v2).bind fun x4 =>
      (qL μ x2 22 v2 x4).bind fun x5 =>
      (gP x5 v0 11 1).bind fun x6 =>
      (qL x5 x6 22 v2 (0 : Int64)).bind fun x7 =>
      lp_X10_countOneMore_2 n v0 v1 (v2 + 1) x7
def lp_X10_countOneMore_52 : Nat → Nat → Nat → Int32 → Int32 → Int32 → Mm → Option Mm
  | 0, _, _, _, _, _, _ => none
  | n+1, v0, v1, v2, v3, v4, μ =>
    (gI μ v1 4 3).bind fun x12 =>
    if x12 ≤ v4 then
      some μ
    else
      (gP μ v0 11 1).bind fun x14 =>
      (f_X3_wrap μ v1 (v4 + v3)).bind fun x15 =>
      (aL μ x14 22 x15).bind fun x16 =>
      (gP μ v0 11 2).bind fun x17 =>
      (aL μ x17 22 v4).bind fun x18 =>
      (qL μ x14 22 x15 (x16 + x18)).bind fun x19 =>
      lp_X10_countOneMore_52 n v0 v1 v2 v3 (v4 + 1) x19
def lp_X10_countOneMore_35 : Nat → Nat → Nat → Int32 → Mm → Option Mm
  | 0, _, _, _, _ => none
  | n+1, v0, v1, v2, μ =>
    (gI μ v1 4 2).bind fun x9 =>
    if x9 ≤ v2 then
      some μ
    else
      (f_X3_treadNow μ v1 v2).bind fun x11 =>
      (lp_X10_countOneMore_52 BIG v0 v1 v2 x11 (0 : Int32) μ).bind fun x20 =>
      lp_X10_countOneMore_35 n v0 v1 (v2 + 1) x20
def f_X10_countOneMore (μ : Mm) (a0 : Nat) (p1 : Nat) : Option Mm :=
  if tg μ a0 = 11 then
    (lp_X10_countOneMore_2 BIG a0 p1 (0 : Int32) μ).bind fun x8 =>
    (lp_X10_countOneMore_35 BIG a0 p1 (0 : Int32) x8).bind fun x21 =>
    some x21
  else none
def lp_X10_countRows_2 : Nat → Nat → Nat → Int32 → Int32 → Mm → Option Mm
  | 0, _, _, _, _, _ => none
  | n+1, v0, v1, v2, v3, μ =>
    if (60 : Int32) ≤ v3 then
      some μ
    else
      (gP μ v0 11 1).bind fun x2 =>
      if v3 = 0 then
        (qL μ x2 22 v3 (1 : Int64)).bind fun x5 =>
        lp_X10_countRows_2 n v0 v1 v2 (v3 + 1) x5
      else
        (qL μ x2 22 v3 (0 : Int64)).bind fun x4 =>
        lp_X10_countRows_2 n v0 v1 v2 (v3 + 1) x4
def lp_X10_countRows_31 : Nat → Nat → Nat → Int32 → Int32 → Mm → Option Mm
  | 0, _, _, _, _, _ => none
  | n+1, v0, v1, v2, v3, μ =>
    if v2 ≤ v3 then
      some μ
    else
      (f_X10_countOneMore μ v0 v1).bind fun x8 =>
      lp_X10_countRows_31 n v0 v1 v2 (v3 + 1) x8
def f_X10_countRows (μ : Mm) (a0 : Nat) (p1 : Nat) (p2 : Int32) : Option Mm :=
  if tg μ a0 = 11 then
    (lp_X10_countRows_2 BIG a0 p1 p2 (0 : Int32) μ).bind fun x6 =>
    (lp_X10_countRows_31 BIG a0 p1 p2 (0 : Int32) x6).bind fun x9 =>
    some x9
  else none
def f_X10_rowsOf (μ : Mm) (a0 : Nat) (p1 : Int32) : Option Int64 :=
  if tg μ a0 = 11 then
    (gP μ a0 11 1).bind fun x1 =>
    (aL μ x1 22 p1).bind fun x2 =>
    some x2
  else none
def lp_X11_init_127 : Nat → Nat → Int32 → Mm → Option Mm
  | 0, _, _, _ => none
  | n+1, v0, v1, μ =>
    if (6 : Int32) ≤ v1 then
      some μ
    else
      (gP μ v0 12 0).bind fun x31 =>
      (f_X8_init (nw μ 9 0) (hz μ) (40 : Int32)).bind fun x33 =>
      (qP x33 x31 25 v1 9 (hz μ)).bind fun x34 =>
      lp_X11_init_127 n v0 (v1 + 1) x34
def lp_X11_init_156 : Nat → Nat → Int32 → Mm → Option Mm
  | 0, _, _, _ => none
  | n+1, v0, v1, μ =>
    if (4 : Int32) ≤ v1 then
      some μ
    else
      (gP μ v0 12 1).bind fun x37 =>
      (f_X8_init (nw μ 9 0) (hz μ) (60 : Int32)).bind fun x39 =>
      (qP x39 x37 25 v1 9 (hz μ)).bind fun x40 =>
      lp_X11_init_156 n v0 (v1 + 1) x40
def lp_X11_init_184 : Nat → Nat → Int32 → Mm → Option Mm
  | 0, _, _, _ => none
  | n+1, v0, v1, μ =>
    if (3 : Int32) ≤ v1 then
      some μ
    else
      (gP μ v0 12 3).bind fun x43 =>
      (f_X8_init (nw μ 9 0) (hz μ) (60 : Int32)).bind fun x45 =>
      (qP x45 x43 25 v1 9 (hz μ)).bind fun x46 =>
      lp_X11_init_184 n v0 (v1 + 1) x46
def f_X11_init (μ : Mm) (a0 : Nat) : Option Mm :=
  if tg μ a0 = 12 then
    (nA μ 25 6 (6 : Int32)).bind fun x1 =>
    (pP x1.2 a0 12 0 x1.1).bind fun x2 =>
    (nA x2 25 4 (4 : Int32)).bind fun x3 =>
    (pP x3.2 a0 12 1 x3.1).bind fun x4 =>
    (f_X3_init (nw x4 4 0) (hz x4)).bind fun x6 =>
    (pP x6 a0 12 2 (hz x4)).bind fun x7 =>
    (nA x7 25 3 (3 : Int32)).bind fun x8 =>
    (pP x8.2 a0 12 3 x8.1).bind fun x9 =>
    (nM x9 (3 : Int32) (6 : Int32)).bind fun x10 =>
    (pP x10.2 a0 12 4 x10.1).bind fun x11 =>
    (f_X5_init (nw x11 6 0) (hz x11)).bind fun x13 =>
    (pP x13 a0 12 5 (hz x11)).bind fun x14 =>
    (f_X7_init (nw x14 8 0) (hz x14)).bind fun x16 =>
    (pP x16 a0 12 6 (hz x14)).bind fun x17 =>
    (f_X8_init (nw x17 9 0) (hz x17) (6 : Int32)).bind fun x19 =>
    (pP x19 a0 12 7 (hz x17)).bind fun x20 =>
    (f_X10_init (nw x20 11 0) (hz x20)).bind fun x22 =>
    (pP x22 a0 12 8 (hz x20)).bind fun x23 =>
    (nA x23 21 6 (6 : Int32)).bind fun x24 =>
    (pP x24.2 a0 12 9 x24.1).bind fun x25 =>
    (pI x25 a0 12 10 (0 : Int32)).bind fun x26 =>
    (pI x26 a0 12 11 (0 : Int32)).bind fun x27 =>
    (pL x27 a0 12 12 (0 : Int64)).bind fun x28 =>
    (pL x28 a0 12 13 (1 : Int64)).bind fun x29 =>
    (lp_X11_init_127 7 a0 (0 : Int32) x29).bind fun x35 =>
    (lp_X11_init_156 7 a0 (0 : Int32) x35).bind fun x41 =>
    (lp_X11_init_184 7 a0 (0 : Int32) x41).bind fun x47 =>
    some x47
  else none
def f_X11_find (μ : Mm) (a0 : Nat) (p1 : Int32) : Option (Int32 × Mm) :=
  if tg μ a0 = 12 then
    (pI μ a0 12 10 p1).bind fun x1 =>
    (gP x1 a0 12 9).bind fun x2 =>
    (aI x1 x2 21 p1).bind fun x3 =>
    (qI x1 x2 21 p1 (x3 + (1 : Int32))).bind fun x4 =>
    some ((-3 : Int32), x4)
  else none
def f_X11_has (μ : Mm) (p0 : Nat) (p1 : Int32) : Option Int32 :=
  if p1 < 0 then
    some (0 : Int32)
  else
    if tg μ p0 = 25 then
    (zI μ p0).bind fun x2 =>
    if x2 ≤ p1 then
      some (0 : Int32)
    else
      some (1 : Int32)
    else none
def f_X11_refuse (μ : Mm) (a0 : Nat) (p1 : Nat) (p2 : Int32) : Option (Int32 × Mm) :=
  if tg μ a0 = 12 then
    (f_X11_has μ p1 p2).bind fun x1 =>
    if x1 = 0 then
      some ((-1 : Int32), μ)
    else
      (aP μ p1 25 p2).bind fun x3 =>
      (f_X8_isThere μ x3).bind fun x4 =>
      if x4 = 0 then
        (f_X11_find μ a0 (1 : Int32)).bind fun x6 =>
        some (x6.1, x6.2)
      else
        some ((0 : Int32), μ)
  else none
def f_X11_refusePlace (μ : Mm) (a0 : Nat) (p1 : Nat) (p2 : Int32) (p3 : Int32) : Option (Int32 × Mm) :=
  if tg μ a0 = 12 then
    (f_X11_refuse μ a0 p1 p2).bind fun x1 =>
    if x1.1 = 0 then
      (aP x1.2 p1 25 p2).bind fun x3 =>
      (f_X8_has x1.2 x3 p3).bind fun x4 =>
      if x4 = 0 then
        (f_X11_find x1.2 a0 (2 : Int32)).bind fun x6 =>
        some (x6.1, x6.2)
      else
        some ((0 : Int32), x1.2)
    else
      some (x1.1, x1.2)
  else none
def f_X11_tell (μ : Mm) (a0 : Nat) (p1 : Int32) : Option (Int32 × Mm) :=
  if tg μ a0 = 12 then
    (pI μ a0 12 11 p1).bind fun x1 =>
    some ((1 : Int32), x1)
  else none
def f_X11_at (μ : Mm) (a0 : Nat) (p1 : Int32) (p2 : Int32) : Option (Int32 × Mm) :=
  if tg μ a0 = 12 then
    (gP μ a0 12 0).bind fun x1 =>
    (f_X11_refusePlace μ a0 x1 p1 p2).bind fun x2 =>
    if x2.1 = 0 then
      (gP x2.2 a0 12 0).bind fun x4 =>
      (aP x2.2 x4 25 p1).bind fun x5 =>
      (gP x2.2 x5 9 0).bind fun x6 =>
      (aI x2.2 x6 21 p2).bind fun x7 =>
      (f_X11_tell x2.2 a0 x7).bind fun x8 =>
      some (x8.1, x8.2)
    else
      some (x2.1, x2.2)
  else none
def f_X11_tear (μ : Mm) (a0 : Nat) (p1 : Int32) : Option (Int32 × Mm) :=
  if tg μ a0 = 12 then
    (gP μ a0 12 0).bind fun x1 =>
    (f_X11_refuse μ a0 x1 p1).bind fun x2 =>
    if x2.1 = 0 then
      (gP x2.2 a0 12 0).bind fun x4 =>
      (aP x2.2 x4 25 p1).bind fun x5 =>
      (f_X8_close x2.2 x5).bind fun x6 =>
      some ((1 : Int32), x6)
    else
      some (x2.1, x2.2)
  else none
def f_X11_open (μ : Mm) (a0 : Nat) (p1 : Nat) (p2 : Int32) (p3 : Int32) (p4 : Int32) : Option (Int32 × Mm) :=
  if tg μ a0 = 12 then
    (f_X11_has μ p1 p2).bind fun x1 =>
    if x1 = 0 then
      some ((-1 : Int32), μ)
    else
      (aP μ p1 25 p2).bind fun x3 =>
      (gP μ x3 9 0).bind fun x4 =>
      if tg μ x4 = 21 then
      (zI μ x4).bind fun x5 =>
      if p3 ≤ x5 then
        if 0 ≤ p3 then
          (aP μ p1 25 p2).bind fun x8 =>
          (f_X8_open μ x8 p3 p4).bind fun x9 =>
          some (p3, x9)
        else
          (f_X11_find μ a0 (5 : Int32)).bind fun x10 =>
          some (x10.1, x10.2)
      else
        some ((-1 : Int32), μ)
      else none
  else none
def f_X11_text (μ : Mm) (a0 : Nat) (p1 : Int32) (p2 : Int32) : Option (Int32 × Mm) :=
  if tg μ a0 = 12 then
    (gP μ a0 12 1).bind fun x1 =>
    (f_X11_open μ a0 x1 p1 p2 (32 : Int32)).bind fun x2 =>
    some (x2.1, x2.2)
  else none
def f_X11_put (μ : Mm) (a0 : Nat) (p1 : Int32) (p2 : Int32) (p3 : Int32) : Option (Int32 × Mm) :=
  if tg μ a0 = 12 then
    (gP μ a0 12 1).bind fun x1 =>
    (f_X11_refusePlace μ a0 x1 p1 p2).bind fun x2 =>
    if x2.1 = 0 then
      (gP x2.2 a0 12 1).bind fun x4 =>
      (aP x2.2 x4 25 p1).bind fun x5 =>
      (f_X8_replace x2.2 x5 p2 p3.toInt8.toInt32).bind fun x6 =>
      some (((1000 : Int32) + x6.1), x6.2)
    else
      some (x2.1, x2.2)
  else none
def f_X11_fault (μ : Mm) (a0 : Nat) (p1 : Int32) : Option (Int32 × Mm) :=
  if tg μ a0 = 12 then
    (gP μ a0 12 1).bind fun x1 =>
    (f_X11_refuse μ a0 x1 p1).bind fun x2 =>
    if x2.1 = 0 then
      (gP x2.2 a0 12 5).bind fun x4 =>
      (gP x2.2 a0 12 1).bind fun x5 =>
      (aP x2.2 x5 25 p1).bind fun x6 =>
      (f_X5_read x2.2 x4 x6).bind fun x7 =>
      some (x7.1, x7.2)
    else
      some (x2.1, x2.2)
  else none
def lp_X11_hall_57 : Nat → Nat → Int32 → Mm → Option Mm
  | 0, _, _, _ => none
  | n+1, v0, v3, μ =>
    if (3 : Int32) ≤ v3 then
      some μ
    else
      (gP μ v0 12 3).bind fun x15 =>
      (aP μ x15 25 v3).bind fun x16 =>
      (f_X8_close μ x16).bind fun x17 =>
      lp_X11_hall_57 n v0 (v3 + 1) x17
def f_X11_hall (μ : Mm) (a0 : Nat) (p1 : Int32) : Option (Int32 × Mm) :=
  if tg μ a0 = 12 then
    (gP μ a0 12 1).bind fun x1 =>
    (f_X11_refuse μ a0 x1 p1).bind fun x2 =>
    if x2.1 = 0 then
      (gP x2.2 a0 12 5).bind fun x4 =>
      (gP x2.2 a0 12 1).bind fun x5 =>
      (aP x2.2 x5 25 p1).bind fun x6 =>
      (f_X5_read x2.2 x4 x6).bind fun x7 =>
      if x7.1 = (-9 : Int32) then
        (gP x7.2 a0 12 2).bind fun x9 =>
        (gP x7.2 a0 12 5).bind fun x10 =>
        (f_X3_build x7.2 x9 x10).bind fun x11 =>
        (gP x11 a0 12 2).bind fun x12 =>
        (f_X3_replay x11 x12).bind fun x13 =>
        (lp_X11_hall_57 BIG a0 (0 : Int32) x13).bind fun x18 =>
        (gP x18 a0 12 2).bind fun x19 =>
        (gI x18 x19 4 2).bind fun x20 =>
        some (x20, x18)
      else
        some ((-4 : Int32), x7.2)
    else
      some (x2.1, x2.2)
  else none
def f_X11_guild (μ : Mm) (a0 : Nat) (p1 : Int32) (p2 : Int32) : Option (Int32 × Mm) :=
  if tg μ a0 = 12 then
    (gP μ a0 12 2).bind fun x1 =>
    (f_X3_hasGuild μ x1 p1).bind fun x2 =>
    if x2 = 0 then
      some ((-1 : Int32), μ)
    else
      if p2 < 0 then
        some ((-1 : Int32), μ)
      else
        if p2 ≤ (4 : Int32) then
          (gP μ a0 12 2).bind fun x6 =>
          (f_X3_detail μ x6 p1 p2).bind fun x7 =>
          (f_X11_tell μ a0 x7).bind fun x8 =>
          some (x8.1, x8.2)
        else
          some ((-1 : Int32), μ)
  else none
def f_X11_walk (μ : Mm) (a0 : Nat) (p1 : Int32) : Option (Int32 × Mm) :=
  if tg μ a0 = 12 then
    (gP μ a0 12 2).bind fun x1 =>
    (f_X3_hasGuild μ x1 p1).bind fun x2 =>
    if x2 = 0 then
      some ((-1 : Int32), μ)
    else
      (gP μ a0 12 2).bind fun x4 =>
      (f_X3_hasRoomFor μ x4 (1 : Int32)).bind fun x5 =>
      if x5 = 0 then
        some ((-2 : Int32), μ)
      else
        (gP μ a0 12 2).bind fun x7 =>
        (f_X3_addStep μ x7 p1).bind fun x8 =>
        (gP x8 a0 12 2).bind fun x9 =>
        (gI x8 x9 4 5).bind fun x10 =>
        some (x10, x8)
  else none
def f_X11_floor (μ : Mm) (a0 : Nat) (p1 : Int32) : Option (Int32 × Mm) :=
  if tg μ a0 = 12 then
    if p1 < 0 then
      some ((-1 : Int32), μ)
    else
      if p1 ≤ (2 : Int32) then
        (gP μ a0 12 2).bind fun x3 =>
        (f_X3_isEmpty μ x3).bind fun x4 =>
        if x4 = 0 then
          (gP μ a0 12 2).bind fun x6 =>
          (gI μ x6 4 7).bind fun x7 =>
          if x7 = p1 then
            some ((-4 : Int32), μ)
          else
            (gP μ a0 12 2).bind fun x9 =>
            (f_X3_hasRoomFor μ x9 (1 : Int32)).bind fun x10 =>
            if x10 = 0 then
              some ((-2 : Int32), μ)
            else
              (gP μ a0 12 2).bind fun x12 =>
              (gI μ x12 4 7).bind fun x13 =>
              (gP μ a0 12 2).bind fun x14 =>
              (f_X3_addStep μ x14 ((6 : Int32) + p1)).bind fun x15 =>
              some (x13, x15)
        else
          some ((-4 : Int32), μ)
      else
        some ((-1 : Int32), μ)
  else none
def f_X11_undo (μ : Mm) (a0 : Nat) (p1 : Int32) : Option (Int32 × Mm) :=
  if tg μ a0 = 12 then
    if p1 < 0 then
      some ((-1 : Int32), μ)
    else
      (gP μ a0 12 2).bind fun x2 =>
      (gP μ x2 4 1).bind fun x3 =>
      (gI μ x3 9 1).bind fun x4 =>
      if p1 ≤ x4 then
        (gP μ a0 12 2).bind fun x6 =>
        (gP μ x6 4 1).bind fun x7 =>
        (gI μ x7 9 1).bind fun x8 =>
        (gP μ a0 12 2).bind fun x9 =>
        (gP μ x9 4 1).bind fun x10 =>
        (pI μ x10 9 1 p1).bind fun x11 =>
        (gP x11 a0 12 2).bind fun x12 =>
        (f_X3_replay x11 x12).bind fun x13 =>
        some ((x8 - p1), x13)
      else
        some ((-1 : Int32), μ)
  else none
def f_X11_keep (μ : Mm) (a0 : Nat) (p1 : Int32) : Option (Int32 × Mm) :=
  if tg μ a0 = 12 then
    (gP μ a0 12 3).bind fun x1 =>
    (f_X11_has μ x1 p1).bind fun x2 =>
    if x2 = 0 then
      some ((-1 : Int32), μ)
    else
      (gP μ a0 12 2).bind fun x4 =>
      (f_X3_isEmpty μ x4).bind fun x5 =>
      if x5 = 0 then
        (gP μ a0 12 2).bind fun x7 =>
        (gP μ a0 12 4).bind fun x8 =>
        (aP μ x8 26 p1).bind fun x9 =>
        (f_X3_tellFeet μ x7 x9).bind fun x10 =>
        (gP x10 a0 12 3).bind fun x11 =>
        (aP x10 x11 25 p1).bind fun x12 =>
        (gP x10 a0 12 2).bind fun x13 =>
        (gP x10 x13 4 1).bind fun x14 =>
        (f_X8_takeFrom x10 x12 x14).bind fun x15 =>
        (gP x15 a0 12 2).bind fun x16 =>
        (gP x15 x16 4 1).bind fun x17 =>
        (gI x15 x17 9 1).bind fun x18 =>
        some (x18, x15)
      else
        some ((-4 : Int32), μ)
  else none
def f_X11_hour (μ : Mm) (a0 : Nat) : Option (Int32 × Mm) :=
  if tg μ a0 = 12 then
    (gP μ a0 12 2).bind fun x1 =>
    (f_X3_isEmpty μ x1).bind fun x2 =>
    if x2 = 0 then
      (gP μ a0 12 2).bind fun x4 =>
      (gI μ x4 4 6).bind fun x5 =>
      (pI μ a0 12 11 x5).bind fun x6 =>
      (gP x6 a0 12 2).bind fun x7 =>
      (gP x6 a0 12 2).bind fun x8 =>
      (gI x6 x8 4 5).bind fun x9 =>
      (f_X3_byTeeth x6 x7 ((12 : Int32) * x9)).bind fun x10 =>
      some (x10, x6)
    else
      some ((-4 : Int32), μ)
  else none
def f_X11_due (μ : Mm) (a0 : Nat) : Option (Int32 × Mm) :=
  if tg μ a0 = 12 then
    (gP μ a0 12 2).bind fun x1 =>
    (gP μ a0 12 2).bind fun x2 =>
    (gI μ x2 4 5).bind fun x3 =>
    (f_X3_hasRentAt μ x1 x3).bind fun x4 =>
    if x4 = 0 then
      (pI μ a0 12 11 (0 : Int32)).bind fun x6 =>
      (gP x6 a0 12 2).bind fun x7 =>
      (gI x6 x7 4 8).bind fun x8 =>
      some (x8, x6)
    else
      (pI μ a0 12 11 (1 : Int32)).bind fun x9 =>
      (gP x9 a0 12 2).bind fun x10 =>
      (gI x9 x10 4 8).bind fun x11 =>
      some (x11, x9)
  else none
def f_X11_tellRatio (μ : Mm) (a0 : Nat) (p1 : Int64) (p3 : Int64) : Option (Int32 × Mm) :=
  if tg μ a0 = 12 then
    (f_X11_greatestDivisor μ p1 p3).bind fun x1 =>
    if 0 ≤ (lg_cmp x1 (1 : Int64)) then
      if x1 = 0 then none else
      (pL μ a0 12 12 (p1 / x1)).bind fun x4 =>
      if x1 = 0 then none else
      (pL x4 a0 12 13 (p3 / x1)).bind fun x6 =>
      some ((1 : Int32), x6)
    else
      some ((1 : Int32), μ)
  else none
def f_X11_pace (μ : Mm) (a0 : Nat) : Option (Int32 × Mm) :=
  if tg μ a0 = 12 then
    (gP μ a0 12 2).bind fun x1 =>
    (gI μ x1 4 9).bind fun x2 =>
    if x2 = 0 then
      (f_X11_find μ a0 (4 : Int32)).bind fun x9 =>
      some (x9.1, x9.2)
    else
      (gP μ a0 12 2).bind fun x4 =>
      (gI μ x4 4 10).bind fun x5 =>
      (gP μ a0 12 2).bind fun x6 =>
      (gI μ x6 4 9).bind fun x7 =>
      (f_X11_tellRatio μ a0 x5.toInt64 x7.toInt64).bind fun x8 =>
      some (x8.1, x8.2)
  else none
def f_X11_order (μ : Mm) (a0 : Nat) (p1 : Int32) (p2 : Int32) (p3 : Int32) : Option (Int32 × Mm) :=
  if tg μ a0 = 12 then
    (gP μ a0 12 2).bind fun x1 =>
    (f_X3_hasGuild μ x1 p1).bind fun x2 =>
    if x2 = 0 then
      some ((-1 : Int32), μ)
    else
      (gP μ a0 12 2).bind fun x4 =>
      (f_X3_hasTooth μ x4 p2).bind fun x5 =>
      if x5 = 0 then
        some ((-1 : Int32), μ)
      else
        (gP μ a0 12 0).bind fun x7 =>
        (f_X11_has μ x7 p3).bind fun x8 =>
        if x8 = 0 then
          some ((-1 : Int32), μ)
        else
          (gP μ a0 12 6).bind fun x10 =>
          (gP μ a0 12 2).bind fun x11 =>
          (f_X7_look μ x10 x11).bind fun x12 =>
          (gP x12 a0 12 6).bind fun x13 =>
          (f_X7_weigh x12 x13 p1 p2).bind fun x14 =>
          (gP x14 a0 12 6).bind fun x15 =>
          (f_X7_fewestWrongs x14 x15).bind fun x16 =>
          if x16 ≤ 0 then
            (gP x14 a0 12 6).bind fun x18 =>
            (gP x14 a0 12 0).bind fun x19 =>
            (aP x14 x19 25 p3).bind fun x20 =>
            (f_X7_tellFirstOrder x14 x18 x20).bind fun x21 =>
            (gP x21 a0 12 0).bind fun x22 =>
            (aP x21 x22 25 p3).bind fun x23 =>
            (f_X8_placeOf x21 x23 p1).bind fun x24 =>
            some (x24, x21)
          else
            some ((-9 : Int32), x14)
  else none
def f_X11_quiet (μ : Mm) (a0 : Nat) : Option (Int32 × Mm) :=
  if tg μ a0 = 12 then
    (gP μ a0 12 2).bind fun x1 =>
    (f_X3_isEmpty μ x1).bind fun x2 =>
    if x2 = 0 then
      (gP μ a0 12 6).bind fun x4 =>
      (gP μ a0 12 2).bind fun x5 =>
      (f_X7_look μ x4 x5).bind fun x6 =>
      (gP x6 a0 12 6).bind fun x7 =>
      (f_X7_countQuiet x6 x7).bind fun x8 =>
      (gP x8.2 a0 12 6).bind fun x9 =>
      (f_X7_lastInQuiet x8.2 x9).bind fun x10 =>
      (pI x8.2 a0 12 11 x10).bind fun x11 =>
      (f_X11_tellRatio x11 a0 x8.1.toInt64 (1 : Int64)).bind fun x12 =>
      some (x12.1, x12.2)
    else
      some ((-4 : Int32), μ)
  else none
def lp_X11_cheap_51 : Nat → Nat → Int32 → Mm → Option Mm
  | 0, _, _, _ => none
  | n+1, v0, v1, μ =>
    (gP μ v0 12 7).bind fun x13 =>
    (gI μ x13 9 1).bind fun x14 =>
    if x14 ≤ v1 then
      some μ
    else
      (gI μ v0 12 11).bind fun x16 =>
      (gP μ v0 12 7).bind fun x17 =>
      (gP μ x17 9 0).bind fun x18 =>
      (aI μ x18 21 v1).bind fun x19 =>
      (pI μ v0 12 11 (((6 : Int32) * x16) + x19)).bind fun x20 =>
      lp_X11_cheap_51 n v0 (v1 + 1) x20
def f_X11_cheap (μ : Mm) (a0 : Nat) : Option (Int32 × Mm) :=
  if tg μ a0 = 12 then
    (gP μ a0 12 2).bind fun x1 =>
    (f_X3_isEmpty μ x1).bind fun x2 =>
    if x2 = 0 then
      (gP μ a0 12 6).bind fun x4 =>
      (gP μ a0 12 2).bind fun x5 =>
      (f_X7_look μ x4 x5).bind fun x6 =>
      (gP x6 a0 12 6).bind fun x7 =>
      (f_X7_weigh x6 x7 (-1 : Int32) (0 : Int32)).bind fun x8 =>
      (gP x8 a0 12 6).bind fun x9 =>
      (gP x8 a0 12 7).bind fun x10 =>
      (f_X7_tellFirstOrder x8 x9 x10).bind fun x11 =>
      (pI x11 a0 12 11 (0 : Int32)).bind fun x12 =>
      (lp_X11_cheap_51 BIG a0 (0 : Int32) x12).bind fun x21 =>
      (gP x21 a0 12 6).bind fun x22 =>
      (f_X7_fewestWrongs x21 x22).bind fun x23 =>
      some (x23, x21)
    else
      some ((-4 : Int32), μ)
  else none
def f_X11_fewest (μ : Mm) (a0 : Nat) (p1 : Int32) : Option (Int32 × Mm) :=
  if tg μ a0 = 12 then
    (gP μ a0 12 2).bind fun x1 =>
    (f_X3_hasTooth μ x1 p1).bind fun x2 =>
    if x2 = 0 then
      some ((-1 : Int32), μ)
    else
      (gP μ a0 12 2).bind fun x4 =>
      (f_X3_wayTo μ x4 p1).bind fun x5 =>
      (gP μ a0 12 8).bind fun x6 =>
      (gP μ a0 12 2).bind fun x7 =>
      (f_X10_findCosts μ x6 x7 (0 : Int32)).bind fun x8 =>
      (gP x8 a0 12 8).bind fun x9 =>
      (f_X10_costOf x8 x9 x5).bind fun x10 =>
      if x10 = (-9 : Int32) then
        some (x10, x8)
      else
        (gP x8 a0 12 8).bind fun x12 =>
        (gP x8 a0 12 2).bind fun x13 =>
        (f_X10_firstWalker x8 x12 x13 x5).bind fun x14 =>
        (pI x8 a0 12 11 x14).bind fun x15 =>
        some (x10, x15)
  else none
def f_X11_feet (μ : Mm) (a0 : Nat) (p1 : Int32) : Option (Int32 × Mm) :=
  if tg μ a0 = 12 then
    (gP μ a0 12 2).bind fun x1 =>
    (f_X3_hasTooth μ x1 p1).bind fun x2 =>
    if x2 = 0 then
      some ((-1 : Int32), μ)
    else
      (gP μ a0 12 8).bind fun x4 =>
      (gP μ a0 12 2).bind fun x5 =>
      (f_X10_findCosts μ x4 x5 (1 : Int32)).bind fun x6 =>
      (gP x6 a0 12 8).bind fun x7 =>
      (gP x6 a0 12 2).bind fun x8 =>
      (f_X3_wayTo x6 x8 p1).bind fun x9 =>
      (f_X10_costOf x6 x7 x9).bind fun x10 =>
      some (x10, x6)
  else none
def lp_X11_never_40 : Nat → Nat → Int32 → Int32 → Int32 → Mm → Option (Int32 × Mm)
  | 0, _, _, _, _, _ => none
  | n+1, v0, v1, v2, v3, μ =>
    if v3 < 0 then
      some (v2, μ)
    else
      (gP μ v0 12 2).bind fun x10 =>
      (gI μ x10 4 5).bind fun x11 =>
      (f_X11_remainder μ (v3 - x11) v1).bind fun x12 =>
      if x12 = 0 then
        lp_X11_never_40 n v0 v1 v2 (v3 + (-1)) μ
      else
        (pI μ v0 12 11 v3).bind fun x14 =>
        lp_X11_never_40 n v0 v1 (v2 + 1) (v3 + (-1)) x14
def f_X11_never (μ : Mm) (a0 : Nat) : Option (Int32 × Mm) :=
  if tg μ a0 = 12 then
    (gP μ a0 12 2).bind fun x1 =>
    (f_X3_isEmpty μ x1).bind fun x2 =>
    if x2 = 0 then
      (gP μ a0 12 2).bind fun x4 =>
      (f_X3_stride μ x4 (-1 : Int32)).bind fun x5 =>
      (pI μ a0 12 11 (-9 : Int32)).bind fun x6 =>
      (gP x6 a0 12 2).bind fun x7 =>
      (gI x6 x7 4 3).bind fun x8 =>
      (lp_X11_never_40 BIG a0 x5 (0 : Int32) (x8 - (1 : Int32)) x6).bind fun x15 =>
      some (x15.1, x15.2)
    else
      some ((-4 : Int32), μ)
  else none
def f_X11_fits (μ : Mm) (a0 : Nat) (p1 : Int32) : Option (Int32 × Mm) :=
  if tg μ a0 = 12 then
    (gP μ a0 12 2).bind fun x1 =>
    (f_X3_hasTooth μ x1 p1).bind fun x2 =>
    if x2 = 0 then
      some ((-1 : Int32), μ)
    else
      (gP μ a0 12 6).bind fun x4 =>
      (gP μ a0 12 2).bind fun x5 =>
      (f_X7_look μ x4 x5).bind fun x6 =>
      (gP x6 a0 12 6).bind fun x7 =>
      (f_X7_firstFit x6 x7 p1).bind fun x8 =>
      (pI x6 a0 12 11 x8).bind fun x9 =>
      (gP x9 a0 12 6).bind fun x10 =>
      (f_X7_countFits x9 x10 p1 (0 : Int32)).bind fun x11 =>
      (f_X11_tellRatio x9 a0 x11.toInt64 (1 : Int64)).bind fun x12 =>
      some (x12.1, x12.2)
  else none
def f_X11_refuseUnfit (μ : Mm) (a0 : Nat) (p1 : Int32) : Option (Int32 × Mm) :=
  if tg μ a0 = 12 then
    (gP μ a0 12 2).bind fun x1 =>
    (f_X3_hasTooth μ x1 p1).bind fun x2 =>
    if x2 = 0 then
      some ((-1 : Int32), μ)
    else
      (gP μ a0 12 6).bind fun x4 =>
      (gP μ a0 12 2).bind fun x5 =>
      (f_X7_look μ x4 x5).bind fun x6 =>
      (gP x6 a0 12 6).bind fun x7 =>
      (f_X7_countFits x6 x7 p1 (0 : Int32)).bind fun x8 =>
      if x8 ≤ 0 then
        (f_X11_find x6 a0 (4 : Int32)).bind fun x10 =>
        some (x10.1, x10.2)
      else
        some ((0 : Int32), x6)
  else none
def lp_X11_sure_31 : Nat → Nat → Int32 → Int32 → Int32 → Int32 → Int32 → Mm → Option (Int32 × Int32)
  | 0, _, _, _, _, _, _, _ => none
  | n+1, v0, v1, v3, v4, v5, v6, μ =>
    (gP μ v0 12 2).bind fun x5 =>
    (gI μ x5 4 2).bind fun x6 =>
    if x6 ≤ v6 then
      some (v4, v5)
    else
      (gP μ v0 12 6).bind fun x8 =>
      (f_X7_countFits μ x8 v1 ((1 : Int32) <<< (v6 &&& 31))).bind fun x9 =>
      ((
        if x9 = v3 then
          some ((1 : Int32) <<< (v6 &&& 31))
        else
          some (0 : Int32)
       : Option Int32)).bind fun x10 =>
      if x9 = 0 then
        lp_X11_sure_31 n v0 v1 v3 (v4 ||| x10) (v5 ||| ((1 : Int32) <<< (v6 &&& 31))) (v6 + 1) μ
      else
        lp_X11_sure_31 n v0 v1 v3 (v4 ||| x10) (v5 ||| (0 : Int32)) (v6 + 1) μ
def f_X11_sure (μ : Mm) (a0 : Nat) (p1 : Int32) : Option (Int32 × Mm) :=
  if tg μ a0 = 12 then
    (f_X11_refuseUnfit μ a0 p1).bind fun x1 =>
    if x1.1 = 0 then
      (gP x1.2 a0 12 6).bind fun x3 =>
      (f_X7_countFits x1.2 x3 p1 (0 : Int32)).bind fun x4 =>
      (lp_X11_sure_31 BIG a0 p1 x4 (0 : Int32) (0 : Int32) (0 : Int32) x1.2).bind fun x13 =>
      (pI x1.2 a0 12 11 x13.2).bind fun x14 =>
      some (x13.1, x14)
    else
      some (x1.1, x1.2)
  else none
def lp_X11_ask_33 : Nat → Nat → Int32 → Int32 → Int32 → Int32 → Int32 → Mm → Option (Int32 × Int32)
  | 0, _, _, _, _, _, _, _ => none
  | n+1, v0, v1, v3, v4, v5, v6, μ =>
    (gP μ v0 12 2).bind fun x5 =>
    (gI μ x5 4 2).bind fun x6 =>
    if x6 ≤ v6 then
      some (v4, v5)
    else
      (gP μ v0 12 6).bind fun x8 =>
      (f_X7_countFits μ x8 v1 ((1 : Int32) <<< (v6 &&& 31))).bind fun x9 =>
      if v5 ≤ (if x9 < (v3 - x9) then (v3 - x9) else x9) then
        lp_X11_ask_33 n v0 v1 v3 v4 v5 (v6 + 1) μ
      else
        lp_X11_ask_33 n v0 v1 v3 v6 (if x9 < (v3 - x9) then (v3 - x9) else x9) (v6 + 1) μ
def f_X11_ask (μ : Mm) (a0 : Nat) (p1 : Int32) : Option (Int32 × Mm) :=
  if tg μ a0 = 12 then
    (f_X11_refuseUnfit μ a0 p1).bind fun x1 =>
    if x1.1 = 0 then
      (gP x1.2 a0 12 6).bind fun x3 =>
      (f_X7_countFits x1.2 x3 p1 (0 : Int32)).bind fun x4 =>
      (lp_X11_ask_33 BIG a0 p1 x4 (0 : Int32) (x4 + (1 : Int32)) (0 : Int32) x1.2).bind fun x11 =>
      (pI x1.2 a0 12 11 x11.2).bind fun x12 =>
      some (x11.1, x12)
    else
      some (x1.1, x1.2)
  else none
def f_X11_noon (μ : Mm) (a0 : Nat) (p1 : Int32) : Option Int32 :=
  if tg μ a0 = 12 then
    (gP μ a0 12 2).bind fun x1 =>
    (f_X3_hasGuild μ x1 p1).bind fun x2 =>
    if x2 = 0 then
      some (-1 : Int32)
    else
      (gP μ a0 12 2).bind fun x4 =>
      (gP μ a0 12 2).bind fun x5 =>
      (f_X3_treadNow μ x5 p1).bind fun x6 =>
      (f_X3_walksToNoon μ x4 x6).bind fun x7 =>
      some x7
  else none
def lp_X11_rent_24 : Nat → Nat → Int32 → Int32 → Mm → Option (Nat × Int32)
  | 0, _, _, _, _ => none
  | n+1, v0, v2, v3, μ =>
    (gP μ v0 12 2).bind fun x6 =>
    (gI μ x6 4 3).bind fun x7 =>
    if x7 < v3 then
      some (1, (0 : Int32))
    else
      (gP μ v0 12 2).bind fun x9 =>
      (gP μ v0 12 2).bind fun x10 =>
      (gP μ v0 12 2).bind fun x11 =>
      (gI μ x11 4 5).bind fun x12 =>
      (f_X3_wrap μ x10 (x12 + (v3 * v2))).bind fun x13 =>
      (f_X3_hasRentAt μ x9 x13).bind fun x14 =>
      if x14 = 0 then
        lp_X11_rent_24 n v0 v2 (v3 + 1) μ
      else
        some (0, v3)
def f_X11_rent (μ : Mm) (a0 : Nat) (p1 : Int32) : Option (Int32 × Mm) :=
  if tg μ a0 = 12 then
    (gP μ a0 12 2).bind fun x1 =>
    (f_X3_hasGuild μ x1 p1).bind fun x2 =>
    if x2 = 0 then
      some ((-1 : Int32), μ)
    else
      (gP μ a0 12 2).bind fun x4 =>
      (f_X3_treadNow μ x4 p1).bind fun x5 =>
      (lp_X11_rent_24 BIG a0 x5 (1 : Int32) μ).bind fun x16 =>
      if x16.1 = 0 then
        (pI μ a0 12 11 (x16.2 * x5)).bind fun x17 =>
        some (x16.2, x17)
      else
        some ((-9 : Int32), μ)
  else none
def lp_X11_odds_40 : Nat → Nat → Int32 → Int32 → Int64 → Int32 → Mm → Option Int64
  | 0, _, _, _, _, _, _ => none
  | n+1, v0, v1, v2, v3, v5, μ =>
    if v2 ≤ v5 then
      some v3
    else
      (gP μ v0 12 2).bind fun x10 =>
      (gI μ x10 4 2).bind fun x11 =>
      lp_X11_odds_40 n v0 v1 v2 (v3 * x11.toInt64) (v5 + 1) μ
def f_X11_odds (μ : Mm) (a0 : Nat) (p1 : Int32) (p2 : Int32) : Option (Int32 × Mm) :=
  if tg μ a0 = 12 then
    (gP μ a0 12 2).bind fun x1 =>
    (f_X3_hasTooth μ x1 p1).bind fun x2 =>
    if x2 = 0 then
      some ((-1 : Int32), μ)
    else
      if p2 < 0 then
        some ((-1 : Int32), μ)
      else
        if p2 ≤ (10 : Int32) then
          (gP μ a0 12 8).bind fun x6 =>
          (gP μ a0 12 2).bind fun x7 =>
          (f_X10_countRows μ x6 x7 p2).bind fun x8 =>
          (lp_X11_odds_40 BIG a0 p1 p2 (1 : Int64) (0 : Int32) x8).bind fun x12 =>
          (gP x8 a0 12 8).bind fun x13 =>
          (gP x8 a0 12 2).bind fun x14 =>
          (f_X3_wayTo x8 x14 p1).bind fun x15 =>
          (f_X10_rowsOf x8 x13 x15).bind fun x16 =>
          (f_X11_tellRatio x8 a0 x16 x12).bind fun x17 =>
          some (x17.1, x17.2)
        else
          some ((-1 : Int32), μ)
  else none
def f_X11_asked (μ : Mm) (a0 : Nat) : Option Int32 :=
  if tg μ a0 = 12 then
    (gI μ a0 12 11).bind fun x1 =>
    some x1
  else none
def f_X11_upper (μ : Mm) (a0 : Nat) : Option Int64 :=
  if tg μ a0 = 12 then
    (gL μ a0 12 12).bind fun x1 =>
    some x1
  else none
def f_X11_lower (μ : Mm) (a0 : Nat) : Option Int64 :=
  if tg μ a0 = 12 then
    (gL μ a0 12 13).bind fun x1 =>
    some x1
  else none
def lp_X11_countThere_4 : Nat → Nat → Int32 → Int32 → Mm → Option Int32
  | 0, _, _, _, _ => none
  | n+1, v0, v1, v2, μ =>
    if tg μ v0 = 25 then
    (zI μ v0).bind fun x1 =>
    if x1 ≤ v2 then
      some v1
    else
      (aP μ v0 25 v2).bind fun x3 =>
      (f_X8_isThere μ x3).bind fun x4 =>
      if x4 = 0 then
        lp_X11_countThere_4 n v0 (v1 + (0 : Int32)) (v2 + 1) μ
      else
        lp_X11_countThere_4 n v0 (v1 + (1 : Int32)) (v2 + 1) μ
    else none
def f_X11_countThere (μ : Mm) (p0 : Nat) : Option Int32 :=
  (lp_X11_countThere_4 BIG p0 (0 : Int32) (0 : Int32) μ).bind fun x6 =>
  some x6
def f_X11_count (μ : Mm) (a0 : Nat) (p1 : Int32) : Option Int32 :=
  if tg μ a0 = 12 then
    if p1 = (0 : Int32) then
      (gP μ a0 12 2).bind fun x2 =>
      (gI μ x2 4 2).bind fun x3 =>
      some x3
    else
      if p1 = (1 : Int32) then
        (gP μ a0 12 2).bind fun x5 =>
        (gI μ x5 4 3).bind fun x6 =>
        some x6
      else
        if p1 = (2 : Int32) then
          (gP μ a0 12 2).bind fun x8 =>
          (gI μ x8 4 5).bind fun x9 =>
          some x9
        else
          if p1 = (3 : Int32) then
            (gP μ a0 12 2).bind fun x11 =>
            (gI μ x11 4 6).bind fun x12 =>
            some x12
          else
            if p1 = (4 : Int32) then
              (gP μ a0 12 2).bind fun x14 =>
              (gP μ x14 4 1).bind fun x15 =>
              (gI μ x15 9 1).bind fun x16 =>
              some x16
            else
              if p1 = (5 : Int32) then
                (gP μ a0 12 2).bind fun x18 =>
                (gI μ x18 4 7).bind fun x19 =>
                some x19
              else
                if p1 = (6 : Int32) then
                  (gP μ a0 12 2).bind fun x21 =>
                  (gI μ x21 4 4).bind fun x22 =>
                  some x22
                else
                  if p1 = (7 : Int32) then
                    (gP μ a0 12 2).bind fun x24 =>
                    (f_X3_countHeavy μ x24).bind fun x25 =>
                    some x25
                  else
                    if p1 = (8 : Int32) then
                      (gP μ a0 12 0).bind fun x27 =>
                      (f_X11_countThere μ x27).bind fun x28 =>
                      some x28
                    else
                      if p1 = (9 : Int32) then
                        (gP μ a0 12 1).bind fun x30 =>
                        (f_X11_countThere μ x30).bind fun x31 =>
                        some x31
                      else
                        if p1 = (10 : Int32) then
                          (gP μ a0 12 3).bind fun x33 =>
                          (f_X11_countThere μ x33).bind fun x34 =>
                          some x34
                        else
                          some (-1 : Int32)
  else none
def f_X11_finding (μ : Mm) (a0 : Nat) : Option Int32 :=
  if tg μ a0 = 12 then
    (gI μ a0 12 10).bind fun x1 =>
    some x1
  else none
def lp_X11_digest_6 : Nat → Nat → Int64 → Int32 → Mm → Option Int64
  | 0, _, _, _, _ => none
  | n+1, v0, v1, v3, μ =>
    if (10 : Int32) < v3 then
      some v1
    else
      (f_X11_count μ v0 v3).bind fun x2 =>
      lp_X11_digest_6 n v0 (((31 : Int64) * v1) + x2.toInt64) (v3 + 1) μ
def lp_X11_digest_62 : Nat → Nat → Int64 → Int32 → Int32 → Mm → Option Int64
  | 0, _, _, _, _, _ => none
  | n+1, v0, v1, v3, v4, μ =>
    if (4 : Int32) < v4 then
      some v1
    else
      (gP μ v0 12 2).bind fun x10 =>
      (f_X3_detail μ x10 v3 v4).bind fun x11 =>
      lp_X11_digest_62 n v0 (((31 : Int64) * v1) + x11.toInt64) v3 (v4 + 1) μ
def lp_X11_digest_48 : Nat → Nat → Int64 → Int32 → Mm → Option Int64
  | 0, _, _, _, _ => none
  | n+1, v0, v1, v3, μ =>
    (gP μ v0 12 2).bind fun x6 =>
    (gI μ x6 4 2).bind fun x7 =>
    if x7 ≤ v3 then
      some v1
    else
      (lp_X11_digest_62 BIG v0 v1 v3 (0 : Int32) μ).bind fun x12 =>
      lp_X11_digest_48 n v0 x12 (v3 + 1) μ
def lp_X11_digest_100 : Nat → Nat → Int64 → Int32 → Mm → Option Int64
  | 0, _, _, _, _ => none
  | n+1, v0, v1, v3, μ =>
    if (3 : Int32) ≤ v3 then
      some v1
    else
      (gP μ v0 12 3).bind fun x15 =>
      (aP μ x15 25 v3).bind fun x16 =>
      (gI μ x16 9 1).bind fun x17 =>
      lp_X11_digest_100 n v0 (((31 : Int64) * v1) + x17.toInt64) (v3 + 1) μ
def lp_X11_digest_130 : Nat → Nat → Int64 → Int32 → Mm → Option Int64
  | 0, _, _, _, _ => none
  | n+1, v0, v1, v3, μ =>
    if (6 : Int32) ≤ v3 then
      some v1
    else
      (gP μ v0 12 0).bind fun x20 =>
      (aP μ x20 25 v3).bind fun x21 =>
      (f_X8_mixInto μ x21 v1).bind fun x22 =>
      lp_X11_digest_130 n v0 x22 (v3 + 1) μ
def lp_X11_digest_155 : Nat → Nat → Int64 → Int32 → Mm → Option Int64
  | 0, _, _, _, _ => none
  | n+1, v0, v1, v3, μ =>
    if (4 : Int32) ≤ v3 then
      some v1
    else
      (gP μ v0 12 1).bind fun x25 =>
      (aP μ x25 25 v3).bind fun x26 =>
      (f_X8_mixInto μ x26 v1).bind fun x27 =>
      lp_X11_digest_155 n v0 x27 (v3 + 1) μ
def f_X11_digest (μ : Mm) (a0 : Nat) : Option Int64 :=
  if tg μ a0 = 12 then
    (lp_X11_digest_6 BIG a0 (17 : Int64) (0 : Int32) μ).bind fun x3 =>
    (gP μ a0 12 2).bind fun x4 =>
    (gI μ x4 4 8).bind fun x5 =>
    (lp_X11_digest_48 BIG a0 (((31 : Int64) * x3) + x5.toInt64) (0 : Int32) μ).bind fun x13 =>
    (lp_X11_digest_100 BIG a0 x13 (0 : Int32) μ).bind fun x18 =>
    (lp_X11_digest_130 BIG a0 x18 (0 : Int32) μ).bind fun x23 =>
    (lp_X11_digest_155 BIG a0 x23 (0 : Int32) μ).bind fun x28 =>
    some x28
  else none
def f_L_cell (sc : SC) (μ : Mm) (p0 : Nat) (p1 : Int32) : Option Int32 :=
  (scZ sc p0).bind fun x1 =>
  if x1 ≤ p1 then
    some ((((61 : Int32) * p1) + (7 : Int32)) * (p1 + (3 : Int32)))
  else
    (scI sc p0 p1).bind fun x3 =>
    some (x3 &&& (268435455 : Int32))
def f_L_put (μ : Mm) (p0 : Nat) (p1 : Int32) (p2 : Int32) : Option (Int32 × Mm) :=
  if p1 < 0 then
    some ((-1000 : Int32), μ)
  else
    (f_X11_put μ p0 (3 : Int32) p1 p2).bind fun x2 =>
    if x2.1 = (1032 : Int32) then
      some ((p1 + (1 : Int32)), x2.2)
    else
      some ((-1000 : Int32), x2.2)
def lp_L_rent_4 : Nat → Nat → Int32 → Int32 → Int32 → Mm → Option Int32
  | 0, _, _, _, _, _ => none
  | n+1, v0, v1, v2, v3, μ =>
    (aI μ v0 21 (14 : Int32)).bind fun x1 =>
    if x1 ≤ v3 then
      some v2
    else
      (aI μ v0 21 ((15 : Int32) + v3)).bind fun x3 =>
      if x3 = v1 then
        lp_L_rent_4 n v0 v1 (v2 ||| (1 : Int32)) (v3 + 1) μ
      else
        lp_L_rent_4 n v0 v1 (v2 ||| (0 : Int32)) (v3 + 1) μ
def f_L_rent (μ : Mm) (p0 : Nat) (p1 : Int32) : Option Int32 :=
  (lp_L_rent_4 BIG p0 p1 (0 : Int32) (0 : Int32) μ).bind fun x5 =>
  (zb x5).bind fun _ =>
  some x5
def lp_L_numbers_3 (sc : SC) : Nat → Nat → Int32 → Int32 → Int32 → Nat → Int32 → Mm → Option Mm
  | 0, _, _, _, _, _, _, _ => none
  | n+1, v0, v1, v2, v3, v4, v5, μ =>
    if (24 : Int32) ≤ v5 then
      some μ
    else
      (qI μ v4 21 v5 (0 : Int32)).bind fun x2 =>
      lp_L_numbers_3 sc n v0 v1 v2 v3 v4 (v5 + 1) x2
def lp_L_numbers_59 (sc : SC) : Nat → Nat → Int32 → Nat → Int32 → Mm → Option Mm
  | 0, _, _, _, _, _ => none
  | n+1, v0, v1, v4, v5, μ =>
    (aI μ v4 21 (0 : Int32)).bind fun x10 =>
    if x10 ≤ v5 then
      some μ
    else
      (f_L_cell sc μ v0 ((v1 + (1 : Int32)) + v5)).bind fun x12 =>
      (qI μ v4 21 ((1 : Int32) + v5) (x12 - x12 / (6 : Int32) * (6 : Int32))).bind fun x13 =>
      (qI x13 v4 21 ((7 : Int32) + v5) ((1 : Int32) + ((x12 / (8 : Int32)) - (x12 / (8 : Int32)) / (9 : Int32) * (9 : Int32)))).bind fun x14 =>
      lp_L_numbers_59 sc n v0 v1 v4 (v5 + 1) x14
def lp_L_numbers_119 (sc : SC) : Nat → Nat → Int32 → Nat → Int32 → Mm → Option Mm
  | 0, _, _, _, _, _ => none
  | n+1, v0, v1, v4, v5, μ =>
    (f_L_cell sc μ v0 v1).bind fun x16 =>
    if ((x16 / (512 : Int32)) - (x16 / (512 : Int32)) / (5 : Int32) * (5 : Int32)) ≤ v5 then
      some μ
    else
      (f_L_cell sc μ v0 ((v1 + (8 : Int32)) + v5)).bind fun x18 =>
      (aI μ v4 21 (13 : Int32)).bind fun x19 =>
      if (x19 - (1 : Int32)) = 0 then none else
      (f_L_rent μ v4 ((1 : Int32) + (x18 - x18 / (x19 - (1 : Int32)) * (x19 - (1 : Int32))))).bind fun x21 =>
      if x21 = 0 then
        (aI μ v4 21 (14 : Int32)).bind fun x23 =>
        (qI μ v4 21 ((15 : Int32) + x23) ((1 : Int32) + (x18 - x18 / (x19 - (1 : Int32)) * (x19 - (1 : Int32))))).bind fun x24 =>
        (aI x24 v4 21 (14 : Int32)).bind fun x25 =>
        (qI x24 v4 21 (14 : Int32) (x25 + (1 : Int32))).bind fun x26 =>
        lp_L_numbers_119 sc n v0 v1 v4 (v5 + 1) x26
      else
        lp_L_numbers_119 sc n v0 v1 v4 (v5 + 1) μ
def f_L_numbers (sc : SC) (μ : Mm) (p0 : Nat) (p1 : Int32) (p2 : Int32) (p3 : Int32) (p4 : Nat) : Option Mm :=
  (lp_L_numbers_3 sc BIG p0 p1 p2 p3 p4 (0 : Int32) μ).bind fun x3 =>
  (f_L_cell sc x3 p0 p1).bind fun x4 =>
  if p2 = 0 then none else
  (qI x3 p4 21 (0 : Int32) ((1 : Int32) + (x4 - x4 / p2 * p2))).bind fun x6 =>
  (f_L_cell sc x6 p0 p1).bind fun x7 =>
  if (p3 - (11 : Int32)) = 0 then none else
  (qI x6 p4 21 (13 : Int32) ((12 : Int32) + ((x7 / (8 : Int32)) - (x7 / (8 : Int32)) / (p3 - (11 : Int32)) * (p3 - (11 : Int32))))).bind fun x9 =>
  (lp_L_numbers_59 sc BIG p0 p1 p4 (0 : Int32) x9).bind fun x15 =>
  (lp_L_numbers_119 sc BIG p0 p1 p4 (0 : Int32) x15).bind fun x27 =>
  some x27
def lp_L_hall_52 : Nat → Nat → Nat → Int32 → Int32 → Mm → Option (Int32 × Mm)
  | 0, _, _, _, _, _ => none
  | n+1, v0, v1, v2, v3, μ =>
    (aI μ v1 21 (0 : Int32)).bind fun x8 =>
    if x8 ≤ v3 then
      some (v2, μ)
    else
      (aI μ v1 21 ((1 : Int32) + v3)).bind fun x10 =>
      ((
        if x10 = 0 then
          some (103 : Int32)
        else
          if x10 = (1 : Int32) then
            some (104 : Int32)
          else
            if x10 = (2 : Int32) then
              some (99 : Int32)
            else
              if x10 = (3 : Int32) then
                some (107 : Int32)
              else
                if x10 = (4 : Int32) then
                  some (114 : Int32)
                else
                  some (116 : Int32)
       : Option Int32)).bind fun x11 =>
      (f_L_put μ v0 v2 x11).bind fun x17 =>
      (aI x17.2 v1 21 ((7 : Int32) + v3)).bind fun x18 =>
      (f_L_put x17.2 v0 x17.1 ((48 : Int32) + x18)).bind fun x19 =>
      lp_L_hall_52 n v0 v1 x19.1 (v3 + 1) x19.2
def lp_L_hall_151 : Nat → Nat → Nat → Int32 → Int32 → Mm → Option (Int32 × Mm)
  | 0, _, _, _, _, _ => none
  | n+1, v0, v1, v2, v3, μ =>
    (aI μ v1 21 (14 : Int32)).bind fun x21 =>
    if x21 ≤ v3 then
      some (v2, μ)
    else
      (f_L_put μ v0 v2 (101 : Int32)).bind fun x23 =>
      (aI x23.2 v1 21 ((15 : Int32) + v3)).bind fun x24 =>
      (f_L_put x23.2 v0 x23.1 ((48 : Int32) + (x24 / (10 : Int32)))).bind fun x25 =>
      (aI x25.2 v1 21 ((15 : Int32) + v3)).bind fun x26 =>
      (f_L_put x25.2 v0 x25.1 ((48 : Int32) + (x26 - x26 / (10 : Int32) * (10 : Int32)))).bind fun x27 =>
      lp_L_hall_151 n v0 v1 x27.1 (v3 + 1) x27.2
def f_L_hall (μ : Mm) (p0 : Nat) (p1 : Nat) : Option (Int32 × Mm) :=
  (f_X11_text μ p0 (3 : Int32) (60 : Int32)).bind fun x1 =>
  if x1.1 = (60 : Int32) then
    (f_L_put x1.2 p0 (1 : Int32) (100 : Int32)).bind fun x3 =>
    (aI x3.2 p1 21 (13 : Int32)).bind fun x4 =>
    (f_L_put x3.2 p0 x3.1 ((48 : Int32) + (x4 / (10 : Int32)))).bind fun x5 =>
    (aI x5.2 p1 21 (13 : Int32)).bind fun x6 =>
    (f_L_put x5.2 p0 x5.1 ((48 : Int32) + (x6 - x6 / (10 : Int32) * (10 : Int32)))).bind fun x7 =>
    (lp_L_hall_52 BIG p0 p1 x7.1 (0 : Int32) x7.2).bind fun x20 =>
    (lp_L_hall_151 BIG p0 p1 x20.1 (0 : Int32) x20.2).bind fun x28 =>
    if x28.1 ≤ 0 then
      some ((0 : Int32), x28.2)
    else
      (f_X11_fault x28.2 p0 (3 : Int32)).bind fun x30 =>
      if x30.1 = (-9 : Int32) then
        (f_X11_hall x30.2 p0 (3 : Int32)).bind fun x32 =>
        (aI x32.2 p1 21 (0 : Int32)).bind fun x33 =>
        if x32.1 = x33 then
          some ((1 : Int32), x32.2)
        else
          some ((0 : Int32), x32.2)
      else
        some ((0 : Int32), x30.2)
  else
    some ((0 : Int32), x1.2)
def f_L_bare (μ : Mm) (p0 : Nat) (p1 : Int32) : Option Int32 :=
  (aI μ p0 21 ((1 : Int32) + p1)).bind fun x1 =>
  (aI μ p0 21 ((7 : Int32) + p1)).bind fun x2 =>
  if x1 = (3 : Int32) then
    some (0 : Int32)
  else
    if x1 = (1 : Int32) then
      some (x2 + x2)
    else
      if x1 = (4 : Int32) then
        some (x2 + ((x2 + (1 : Int32)) / (2 : Int32)))
      else
        if x1 = (2 : Int32) then
          some (x2 - (1 : Int32))
        else
          if x1 = (5 : Int32) then
            some ((x2 - (1 : Int32)) / (2 : Int32))
          else
            some x2
def f_L_tread (μ : Mm) (p0 : Nat) (p1 : Nat) (p2 : Int32) : Option Int32 :=
  (f_L_bare μ p0 p2).bind fun x1 =>
  (aI μ p1 21 (2 : Int32)).bind fun x2 =>
  if x2 = (2 : Int32) then
    some (0 : Int32)
  else
    (aI μ p1 21 (2 : Int32)).bind fun x4 =>
    if x4 = (1 : Int32) then
      some (x1 / (2 : Int32))
    else
      some x1
def lp_L_walk_14 : Nat → Nat → Nat → Int32 → Int32 → Mm → Option Mm
  | 0, _, _, _, _, _ => none
  | n+1, v0, v1, v2, v3, μ =>
    (aI μ v1 21 (0 : Int32)).bind fun x4 =>
    (aI μ v0 21 (13 : Int32)).bind fun x5 =>
    if x4 < x5 then
      some μ
    else
      (aI μ v1 21 (0 : Int32)).bind fun x7 =>
      (aI μ v0 21 (13 : Int32)).bind fun x8 =>
      (qI μ v1 21 (0 : Int32) (x7 - x8)).bind fun x9 =>
      (aI x9 v1 21 (1 : Int32)).bind fun x10 =>
      (qI x9 v1 21 (1 : Int32) (x10 + (1 : Int32))).bind fun x11 =>
      lp_L_walk_14 n v0 v1 v2 v3 x11
def f_L_walk (μ : Mm) (p0 : Nat) (p1 : Nat) (p2 : Int32) : Option Mm :=
  (f_L_tread μ p0 p1 p2).bind fun x1 =>
  (aI μ p1 21 (0 : Int32)).bind fun x2 =>
  (qI μ p1 21 (0 : Int32) (x2 + x1)).bind fun x3 =>
  (lp_L_walk_14 BIG p0 p1 p2 x1 x3).bind fun x12 =>
  (aI x12 p1 21 (3 : Int32)).bind fun x13 =>
  (aI x12 p1 21 (0 : Int32)).bind fun x14 =>
  (f_L_rent x12 p0 x14).bind fun x15 =>
  ((
    if x15 = 0 then
      some (0 : Int32)
    else
      some (1 : Int32)
   : Option Int32)).bind fun x16 =>
  (qI x12 p1 21 (3 : Int32) (x13 + x16)).bind fun x18 =>
  (aI x18 p1 21 (4 : Int32)).bind fun x19 =>
  (qI x18 p1 21 (4 : Int32) (x19 + x1)).bind fun x20 =>
  (aI x20 p1 21 ((5 : Int32) + p2)).bind fun x21 =>
  (qI x20 p1 21 ((5 : Int32) + p2) (x21 + (1 : Int32))).bind fun x22 =>
  some x22
def f_L_gave (μ : Mm) (p0 : Nat) (p1 : Int32) : Option Int32 :=
  if p1 = (1 : Int32) then
    (f_X11_asked μ p0).bind fun x2 =>
    some x2
  else
    some (-7777 : Int32)
def f_L_says (μ : Mm) (p0 : Nat) (p1 : Int32) (p2 : Int32) (p3 : Int32) : Option Int32 :=
  if p1 = p2 then
    (f_X11_asked μ p0).bind fun x2 =>
    if x2 = p3 then
      some (1 : Int32)
    else
      some (0 : Int32)
  else
    some (0 : Int32)
def f_L_goes (μ : Mm) (p0 : Nat) (p1 : Int32) (p2 : Nat) (p3 : Nat) : Option (Int32 × Mm) :=
  if (p1 - p1 / (4 : Int32) * (4 : Int32)) = 0 then
    (aI μ p3 21 (2 : Int32)).bind fun x8 =>
    (qI μ p3 21 (2 : Int32) ((p1 / (8 : Int32)) - (p1 / (8 : Int32)) / (3 : Int32) * (3 : Int32))).bind fun x9 =>
    (f_X11_floor x9 p0 ((p1 / (8 : Int32)) - (p1 / (8 : Int32)) / (3 : Int32) * (3 : Int32))).bind fun x10 =>
    ((
      if x8 = ((p1 / (8 : Int32)) - (p1 / (8 : Int32)) / (3 : Int32) * (3 : Int32)) then
        some (-4 : Int32)
      else
        some x8
     : Option Int32)).bind fun x11 =>
    if x10.1 = x11 then
      if x8 = ((p1 / (8 : Int32)) - (p1 / (8 : Int32)) / (3 : Int32) * (3 : Int32)) then
        some ((0 : Int32), x10.2)
      else
        some ((1 : Int32), x10.2)
    else
      some ((-1 : Int32), x10.2)
  else
    (aI μ p2 21 (0 : Int32)).bind fun x2 =>
    if x2 = 0 then none else
    (f_L_walk μ p2 p3 ((p1 / (8 : Int32)) - (p1 / (8 : Int32)) / x2 * x2)).bind fun x4 =>
    (f_X11_walk x4 p0 ((p1 / (8 : Int32)) - (p1 / (8 : Int32)) / x2 * x2)).bind fun x5 =>
    (aI x5.2 p3 21 (0 : Int32)).bind fun x6 =>
    if x5.1 = x6 then
      some ((1 : Int32), x5.2)
    else
      some ((-1 : Int32), x5.2)
def lp_L_again_95 (sc : SC) : Nat → Nat → Int32 → Int32 → Int32 → Int32 → Int32 → Int32 → Mm → Option (Nat × Mm)
  | 0, _, _, _, _, _, _, _, _ => none
  | n+1, v0, v3, v4, v5, v6, v9, v10, μ =>
    if (30 : Int32) < v10 then
      some (1, μ)
    else
      (f_X11_walk μ v0 v4).bind fun x13 =>
      ((
        if x13.1 = 0 then
          some (1 : Int32)
        else
          some (0 : Int32)
       : Option Int32)).bind fun x14 =>
      (f_X11_due x13.2 v0).bind fun x16 =>
      ((
        if x16.1 ≤ v9 then
          some (0 : Int32)
        else
          some (1 : Int32)
       : Option Int32)).bind fun x17 =>
      ((
        if v5 ≤ 0 then
          some (0 : Int32)
        else
          if v5 = 0 then none else
          if (v10 - v10 / v5 * v5) = 0 then
            if v10 = v5 then
              some (1 : Int32)
            else
              some (0 : Int32)
          else
            some (0 : Int32)
       : Option Int32)).bind fun x19 =>
      if x14 = x19 then
        if 0 ≤ v5 then
          if v6 ≤ 0 then
            if x17 = (0 : Int32) then
              lp_L_again_95 sc n v0 v3 v4 v5 v6 v9 (v10 + 1) x16.2
            else
              some (0, x16.2)
          else
            if v10 < v6 then
              if x17 = (0 : Int32) then
                lp_L_again_95 sc n v0 v3 v4 v5 v6 v9 (v10 + 1) x16.2
              else
                some (0, x16.2)
            else
              if x17 = (1 : Int32) then
                lp_L_again_95 sc n v0 v3 v4 v5 v6 v9 (v10 + 1) x16.2
              else
                some (0, x16.2)
        else
          if x14 = 0 then
            if v6 ≤ 0 then
              if x17 = (0 : Int32) then
                lp_L_again_95 sc n v0 v3 v4 v5 v6 v9 (v10 + 1) x16.2
              else
                some (0, x16.2)
            else
              if v10 < v6 then
                if x17 = (0 : Int32) then
                  lp_L_again_95 sc n v0 v3 v4 v5 v6 v9 (v10 + 1) x16.2
                else
                  some (0, x16.2)
              else
                if x17 = (1 : Int32) then
                  lp_L_again_95 sc n v0 v3 v4 v5 v6 v9 (v10 + 1) x16.2
                else
                  some (0, x16.2)
          else
            some (0, x16.2)
      else
        if v10 ≤ v5 then
          some (0, x16.2)
        else
          if 0 ≤ v5 then
            if v6 ≤ 0 then
              if x17 = (0 : Int32) then
                lp_L_again_95 sc n v0 v3 v4 v5 v6 v9 (v10 + 1) x16.2
              else
                some (0, x16.2)
            else
              if v10 < v6 then
                if x17 = (0 : Int32) then
                  lp_L_again_95 sc n v0 v3 v4 v5 v6 v9 (v10 + 1) x16.2
                else
                  some (0, x16.2)
              else
                if x17 = (1 : Int32) then
                  lp_L_again_95 sc n v0 v3 v4 v5 v6 v9 (v10 + 1) x16.2
                else
                  some (0, x16.2)
          else
            if x14 = 0 then
              if v6 ≤ 0 then
                if x17 = (0 : Int32) then
                  lp_L_again_95 sc n v0 v3 v4 v5 v6 v9 (v10 + 1) x16.2
                else
                  some (0, x16.2)
              else
                if v10 < v6 then
                  if x17 = (0 : Int32) then
                    lp_L_again_95 sc n v0 v3 v4 v5 v6 v9 (v10 + 1) x16.2
                  else
                    some (0, x16.2)
                else
                  if x17 = (1 : Int32) then
                    lp_L_again_95 sc n v0 v3 v4 v5 v6 v9 (v10 + 1) x16.2
                  else
                    some (0, x16.2)
            else
              some (0, x16.2)
def f_L_again (sc : SC) (μ : Mm) (p0 : Nat) (p1 : Nat) (p2 : Int32) (p3 : Int32) : Option (Int32 × Mm) :=
  (f_L_cell sc μ p1 (44 : Int32)).bind fun x1 =>
  if p2 = 0 then none else
  (f_X11_noon μ p0 (x1 - x1 / p2 * p2)).bind fun x3 =>
  (f_X11_rent μ p0 (x1 - x1 / p2 * p2)).bind fun x4 =>
  (f_X11_asked x4.2 p0).bind fun x5 =>
  (f_X11_guild x4.2 p0 (x1 - x1 / p2 * p2) (2 : Int32)).bind fun x6 =>
  (f_L_gave x6.2 p0 x6.1).bind fun x7 =>
  (f_X11_due x6.2 p0).bind fun x8 =>
  if x4.1 ≤ 0 then
    if 0 ≤ x3 then
      if 0 ≤ x4.1 then
        (lp_L_again_95 sc BIG p0 p3 (x1 - x1 / p2 * p2) x3 x4.1 x8.1 (1 : Int32) x8.2).bind fun x50 =>
        if x50.1 = 0 then
          some ((0 : Int32), x50.2)
        else
          (f_X11_undo x50.2 p0 p3).bind fun x51 =>
          if x51.1 = (30 : Int32) then
            some ((1 : Int32), x51.2)
          else
            some ((0 : Int32), x51.2)
      else
        if x4.1 = (-9 : Int32) then
          (lp_L_again_95 sc BIG p0 p3 (x1 - x1 / p2 * p2) x3 x4.1 x8.1 (1 : Int32) x8.2).bind fun x54 =>
          if x54.1 = 0 then
            some ((0 : Int32), x54.2)
          else
            (f_X11_undo x54.2 p0 p3).bind fun x55 =>
            if x55.1 = (30 : Int32) then
              some ((1 : Int32), x55.2)
            else
              some ((0 : Int32), x55.2)
        else
          some ((0 : Int32), x8.2)
    else
      if x3 = (-9 : Int32) then
        if 0 ≤ x4.1 then
          (lp_L_again_95 sc BIG p0 p3 (x1 - x1 / p2 * p2) x3 x4.1 x8.1 (1 : Int32) x8.2).bind fun x59 =>
          if x59.1 = 0 then
            some ((0 : Int32), x59.2)
          else
            (f_X11_undo x59.2 p0 p3).bind fun x60 =>
            if x60.1 = (30 : Int32) then
              some ((1 : Int32), x60.2)
            else
              some ((0 : Int32), x60.2)
        else
          if x4.1 = (-9 : Int32) then
            (lp_L_again_95 sc BIG p0 p3 (x1 - x1 / p2 * p2) x3 x4.1 x8.1 (1 : Int32) x8.2).bind fun x63 =>
            if x63.1 = 0 then
              some ((0 : Int32), x63.2)
            else
              (f_X11_undo x63.2 p0 p3).bind fun x64 =>
              if x64.1 = (30 : Int32) then
                some ((1 : Int32), x64.2)
              else
                some ((0 : Int32), x64.2)
          else
            some ((0 : Int32), x8.2)
      else
        some ((0 : Int32), x8.2)
  else
    if x5 = (x4.1 * x7) then
      if 0 ≤ x3 then
        if 0 ≤ x4.1 then
          (lp_L_again_95 sc BIG p0 p3 (x1 - x1 / p2 * p2) x3 x4.1 x8.1 (1 : Int32) x8.2).bind fun x69 =>
          if x69.1 = 0 then
            some ((0 : Int32), x69.2)
          else
            (f_X11_undo x69.2 p0 p3).bind fun x70 =>
            if x70.1 = (30 : Int32) then
              some ((1 : Int32), x70.2)
            else
              some ((0 : Int32), x70.2)
        else
          if x4.1 = (-9 : Int32) then
            (lp_L_again_95 sc BIG p0 p3 (x1 - x1 / p2 * p2) x3 x4.1 x8.1 (1 : Int32) x8.2).bind fun x73 =>
            if x73.1 = 0 then
              some ((0 : Int32), x73.2)
            else
              (f_X11_undo x73.2 p0 p3).bind fun x74 =>
              if x74.1 = (30 : Int32) then
                some ((1 : Int32), x74.2)
              else
                some ((0 : Int32), x74.2)
          else
            some ((0 : Int32), x8.2)
      else
        if x3 = (-9 : Int32) then
          if 0 ≤ x4.1 then
            (lp_L_again_95 sc BIG p0 p3 (x1 - x1 / p2 * p2) x3 x4.1 x8.1 (1 : Int32) x8.2).bind fun x78 =>
            if x78.1 = 0 then
              some ((0 : Int32), x78.2)
            else
              (f_X11_undo x78.2 p0 p3).bind fun x79 =>
              if x79.1 = (30 : Int32) then
                some ((1 : Int32), x79.2)
              else
                some ((0 : Int32), x79.2)
          else
            if x4.1 = (-9 : Int32) then
              (lp_L_again_95 sc BIG p0 p3 (x1 - x1 / p2 * p2) x3 x4.1 x8.1 (1 : Int32) x8.2).bind fun x82 =>
              if x82.1 = 0 then
                some ((0 : Int32), x82.2)
              else
                (f_X11_undo x82.2 p0 p3).bind fun x83 =>
                if x83.1 = (30 : Int32) then
                  some ((1 : Int32), x83.2)
                else
                  some ((0 : Int32), x83.2)
            else
              some ((0 : Int32), x8.2)
        else
          some ((0 : Int32), x8.2)
    else
      some ((0 : Int32), x8.2)
def lp_L_chances_21 (sc : SC) : Nat → Nat → Int32 → Int32 → Int64 → Int32 → Mm → Option Int64
  | 0, _, _, _, _, _, _ => none
  | n+1, v0, v2, v3, v4, v6, μ =>
    if v2 ≤ v6 then
      some v4
    else
      (f_X11_count μ v0 (0 : Int32)).bind fun x4 =>
      lp_L_chances_21 sc n v0 v2 v3 (v4 * x4.toInt64) (v6 + 1) μ
def lp_L_chances_50 (sc : SC) : Nat → Nat → Int32 → Int32 → Int64 → Int64 → Int32 → Mm → Option (Nat × Int64 × Mm)
  | 0, _, _, _, _, _, _, _ => none
  | n+1, v0, v2, v3, v4, v6, v8, μ =>
    if v3 ≤ v8 then
      some (1, v6, μ)
    else
      (f_X11_odds μ v0 v8 v2).bind fun x7 =>
      if x7.1 = (1 : Int32) then
        (f_X11_lower x7.2 v0).bind fun x9 =>
        if (lg_cmp x9 (1 : Int64)) < 0 then
          some (0, (0 : Int64), x7.2)
        else
          (f_X11_lower x7.2 v0).bind fun x11 =>
          if x11 = 0 then none else
          if (lg_cmp (v4 - v4 / x11 * x11) (0 : Int64)) = 0 then
            (f_X11_upper x7.2 v0).bind fun x14 =>
            if (lg_cmp x14 (0 : Int64)) < 0 then
              some (0, (0 : Int64), x7.2)
            else
              (f_X11_upper x7.2 v0).bind fun x16 =>
              if (lg_cmp x16 (0 : Int64)) ≤ 0 then
                (f_X11_upper x7.2 v0).bind fun x18 =>
                (f_X11_lower x7.2 v0).bind fun x19 =>
                if x19 = 0 then none else
                lp_L_chances_50 sc n v0 v2 v3 v4 (v6 + (x18 * (v4 / x19))) (v8 + 1) x7.2
              else
                (f_X11_fewest x7.2 v0 v8).bind fun x21 =>
                if x21.1 ≤ v2 then
                  (f_X11_upper x21.2 v0).bind fun x23 =>
                  (f_X11_lower x21.2 v0).bind fun x24 =>
                  if x24 = 0 then none else
                  lp_L_chances_50 sc n v0 v2 v3 v4 (v6 + (x23 * (v4 / x24))) (v8 + 1) x21.2
                else
                  some (0, (0 : Int64), x21.2)
          else
            some (0, (0 : Int64), x7.2)
      else
        some (0, (0 : Int64), x7.2)
def f_L_chances (sc : SC) (μ : Mm) (p0 : Nat) (p1 : Nat) : Option (Int32 × Mm) :=
  (f_L_cell sc μ p1 (45 : Int32)).bind fun x1 =>
  (f_X11_count μ p0 (1 : Int32)).bind fun x2 =>
  (lp_L_chances_21 sc BIG p0 (x1 - x1 / (5 : Int32) * (5 : Int32)) x2 (1 : Int64) (0 : Int32) μ).bind fun x5 =>
  (lp_L_chances_50 sc BIG p0 (x1 - x1 / (5 : Int32) * (5 : Int32)) x2 x5 (0 : Int64) (0 : Int32) μ).bind fun x26 =>
  if x26.1 = 0 then
    some ((0 : Int32), x26.2.2)
  else
    if (lg_cmp x26.2.1 x5) = 0 then
      some ((1 : Int32), x26.2.2)
    else
      some ((0 : Int32), x26.2.2)
def lp_L_cheapest_23 : Nat → Nat → Int32 → Int32 → Int32 → Int32 → Int32 → Int32 → Int32 → Mm → Option Int32
  | 0, _, _, _, _, _, _, _, _, _ => none
  | n+1, v0, v1, v2, v3, v4, v5, v6, v7, μ =>
    if v1 ≤ v7 then
      some v6
    else
      lp_L_cheapest_23 n v0 v1 v2 v3 v4 v5 (v6 * (6 : Int32)) (v7 + 1) μ
def lp_L_cheapest_48 : Nat → Nat → Int32 → Int32 → Int32 → Int32 → Int32 → Int32 → Int32 → Int32 → Mm → Option (Nat × Mm)
  | 0, _, _, _, _, _, _, _, _, _, _ => none
  | n+1, v0, v1, v2, v3, v4, v5, v6, v7, v8, μ =>
    if v1 ≤ v8 then
      some (1, μ)
    else
      if v6 = 0 then none else
      ((
        if v6 ≤ (1 : Int32) then
          some (1 : Int32)
        else
          some (v6 / (6 : Int32))
       : Option Int32)).bind fun x8 =>
      if v1 ≤ ((v4 / v6) - (v4 / v6) / (6 : Int32) * (6 : Int32)) then
        some (0, μ)
      else
        if ((v7 >>> (((v4 / v6) - (v4 / v6) / (6 : Int32) * (6 : Int32)) &&& 31)) &&& (1 : Int32)) = (1 : Int32) then
          some (0, μ)
        else
          (f_X11_walk μ v0 ((v4 / v6) - (v4 / v6) / (6 : Int32) * (6 : Int32))).bind fun x12 =>
          if 0 ≤ x12.1 then
            lp_L_cheapest_48 n v0 v1 v2 v3 v4 v5 x8 (v7 ||| ((1 : Int32) <<< (((v4 / v6) - (v4 / v6) / (6 : Int32) * (6 : Int32)) &&& 31))) (v8 + 1) x12.2
          else
            some (0, x12.2)
def f_L_cheapest (μ : Mm) (p0 : Nat) (p1 : Int32) (p2 : Int32) : Option (Int32 × Mm) :=
  (f_X11_cheap μ p0).bind fun x1 =>
  (f_X11_asked x1.2 p0).bind fun x2 =>
  (f_X11_due x1.2 p0).bind fun x3 =>
  (lp_L_cheapest_23 BIG p0 p1 p2 x1.1 x2 x3.1 (1 : Int32) (1 : Int32) x3.2).bind fun x5 =>
  (lp_L_cheapest_48 BIG p0 p1 p2 x1.1 x2 x3.1 x5 (0 : Int32) (0 : Int32) x3.2).bind fun x14 =>
  if x14.1 = 0 then
    some ((0 : Int32), x14.2)
  else
    (f_X11_due x14.2 p0).bind fun x15 =>
    if x15.1 = (x3.1 + x1.1) then
      (f_X11_undo x15.2 p0 p2).bind fun x17 =>
      if x17.1 = p1 then
        (f_X11_quiet x17.2 p0).bind fun x19 =>
        if x19.1 = (1 : Int32) then
          (f_X11_upper x19.2 p0).bind fun x21 =>
          ((
            if (lg_cmp x21 (0 : Int64)) ≤ 0 then
              some (0 : Int32)
            else
              some (1 : Int32)
           : Option Int32)).bind fun x22 =>
          if x1.1 = 0 then
            if x22 = (1 : Int32) then
              some ((1 : Int32), x19.2)
            else
              some ((0 : Int32), x19.2)
          else
            if x22 = (0 : Int32) then
              some ((1 : Int32), x19.2)
            else
              some ((0 : Int32), x19.2)
        else
          some ((0 : Int32), x19.2)
      else
        some ((0 : Int32), x17.2)
    else
      some ((0 : Int32), x15.2)
def lp_L_fewest_130 (sc : SC) : Nat → Nat → Int32 → Int32 → Int32 → Int32 → Int32 → Mm → Option (Nat × Mm)
  | 0, _, _, _, _, _, _, _ => none
  | n+1, v0, v2, v3, v4, v5, v7, μ =>
    if v7 ≤ 0 then
      some (1, μ)
    else
      (f_X11_fewest μ v0 v4).bind fun x15 =>
      (f_X11_asked x15.2 v0).bind fun x16 =>
      if x15.1 = v7 then
        if x16 < 0 then
          some (0, x15.2)
        else
          if v2 ≤ x16 then
            some (0, x15.2)
          else
            (f_X11_walk x15.2 v0 x16).bind fun x20 =>
            if 0 ≤ x20.1 then
              lp_L_fewest_130 sc n v0 v2 v3 v4 v5 (v7 + (-1)) x20.2
            else
              some (0, x20.2)
      else
        some (0, x15.2)
def f_L_fewest (sc : SC) (μ : Mm) (p0 : Nat) (p1 : Nat) (p2 : Int32) (p3 : Int32) : Option (Int32 × Mm) :=
  (f_L_cell sc μ p1 (42 : Int32)).bind fun x1 =>
  (f_X11_count μ p0 (1 : Int32)).bind fun x2 =>
  if x2 = 0 then none else
  (f_X11_fewest μ p0 (x1 - x1 / x2 * x2)).bind fun x4 =>
  (f_X11_feet x4.2 p0 (x1 - x1 / x2 * x2)).bind fun x5 =>
  if 0 ≤ x4.1 then
    if x5.1 < x4.1 then
      if x4.1 ≤ (40 : Int32) then
        some ((0 : Int32), x5.2)
      else
        if x5.1 < x4.1 then
          some ((0 : Int32), x5.2)
        else
          some ((1 : Int32), x5.2)
    else
      if ((9 : Int32) * x4.1) < x5.1 then
        if x4.1 ≤ (40 : Int32) then
          some ((0 : Int32), x5.2)
        else
          if x5.1 < x4.1 then
            some ((0 : Int32), x5.2)
          else
            some ((1 : Int32), x5.2)
      else
        if x4.1 ≤ (40 : Int32) then
          (lp_L_fewest_130 sc BIG p0 p2 p3 (x1 - x1 / x2 * x2) x4.1 x4.1 x5.2).bind fun x22 =>
          if x22.1 = 0 then
            some ((0 : Int32), x22.2)
          else
            (f_X11_count x22.2 p0 (2 : Int32)).bind fun x23 =>
            if x23 = (x1 - x1 / x2 * x2) then
              (f_X11_fewest x22.2 p0 (x1 - x1 / x2 * x2)).bind fun x25 =>
              (f_L_says x25.2 p0 x25.1 (0 : Int32) (-9 : Int32)).bind fun x26 =>
              if x26 = 0 then
                some ((0 : Int32), x25.2)
              else
                (f_X11_feet x25.2 p0 (x1 - x1 / x2 * x2)).bind fun x28 =>
                if x28.1 = 0 then
                  (f_X11_undo x28.2 p0 p3).bind fun x30 =>
                  if x30.1 = x4.1 then
                    some ((1 : Int32), x30.2)
                  else
                    some ((0 : Int32), x30.2)
                else
                  some ((0 : Int32), x28.2)
            else
              some ((0 : Int32), x22.2)
        else
          if x4.1 ≤ (40 : Int32) then
            some ((0 : Int32), x5.2)
          else
            if x5.1 < x4.1 then
              some ((0 : Int32), x5.2)
            else
              some ((1 : Int32), x5.2)
  else
    (f_X11_never x5.2 p0).bind fun x34 =>
    if x4.1 = (-9 : Int32) then
      if x5.1 = (-9 : Int32) then
        if x34.1 ≤ 0 then
          some ((0 : Int32), x34.2)
        else
          (f_X11_asked x34.2 p0).bind fun x38 =>
          if x38 < 0 then
            some ((0 : Int32), x34.2)
          else
            (f_X11_asked x34.2 p0).bind fun x40 =>
            if (x1 - x1 / x2 * x2) < x40 then
              some ((0 : Int32), x34.2)
            else
              some ((1 : Int32), x34.2)
      else
        some ((0 : Int32), x34.2)
    else
      some ((0 : Int32), x34.2)
def lp_L_fitted_188 (sc : SC) : Nat → Nat → Int32 → Int32 → Int32 → Int32 → Int32 → Int32 → Int32 → Int32 → Mm → Option (Nat × Int32 × Mm)
  | 0, _, _, _, _, _, _, _, _, _, _ => none
  | n+1, v0, v2, v3, v4, v5, v6, v13, v14, v15, μ =>
    if v2 ≤ v15 then
      some (1, v14, μ)
    else
      if ((v6 >>> (v15 &&& 31)) &&& (1 : Int32)) = (1 : Int32) then
        (f_X11_walk μ v0 v15).bind fun x24 =>
        if 0 ≤ x24.1 then
          lp_L_fitted_188 sc n v0 v2 v3 v4 v5 v6 v13 (v14 + 1) (v15 + 1) x24.2
        else
          some (0, (0 : Int32), x24.2)
      else
        lp_L_fitted_188 sc n v0 v2 v3 v4 v5 v6 v13 v14 (v15 + 1) μ
def f_L_fitted (sc : SC) (μ : Mm) (p0 : Nat) (p1 : Nat) (p2 : Int32) (p3 : Int32) : Option (Int32 × Mm) :=
  (f_X11_count μ p0 (1 : Int32)).bind fun x1 =>
  (f_L_cell sc μ p1 (43 : Int32)).bind fun x2 =>
  if x1 = 0 then none else
  (f_X11_fits μ p0 (x2 - x2 / x1 * x1)).bind fun x4 =>
  (f_L_gave x4.2 p0 x4.1).bind fun x5 =>
  (f_X11_upper x4.2 p0).bind fun x6 =>
  (f_X11_sure x4.2 p0 (x2 - x2 / x1 * x1)).bind fun x7 =>
  (f_X11_asked x7.2 p0).bind fun x8 =>
  if (lg_cmp x6 (0 : Int64)) = 0 then
    if x5 = (-9 : Int32) then
      if x7.1 = (-3 : Int32) then
        (f_X11_finding x7.2 p0).bind fun x34 =>
        if x34 = (4 : Int32) then
          some ((1 : Int32), x7.2)
        else
          some ((0 : Int32), x7.2)
      else
        some ((0 : Int32), x7.2)
    else
      some ((0 : Int32), x7.2)
  else
    (f_X11_ask x7.2 p0 (x2 - x2 / x1 * x1)).bind fun x10 =>
    (f_X11_asked x10.2 p0).bind fun x11 =>
    if x5 < 0 then
      some ((0 : Int32), x10.2)
    else
      if ((1 : Int32) <<< (p2 &&& 31)) ≤ x5 then
        some ((0 : Int32), x10.2)
      else
        if (x7.1 &&& (x5 ^^^ (-1 : Int32))) = 0 then
          if (x8 &&& x5) = 0 then
            if (x7.1 &&& x8) = 0 then
              if x10.1 < 0 then
                some ((0 : Int32), x10.2)
              else
                if p2 ≤ x10.1 then
                  some ((0 : Int32), x10.2)
                else
                  if (lg_cmp x11.toInt64 ((x6 + (1 : Int64)) / (2 : Int64))) < 0 then
                    some ((0 : Int32), x10.2)
                  else
                    if (lg_cmp x11.toInt64 x6) ≤ 0 then
                      (f_X11_count x10.2 p0 (2 : Int32)).bind fun x21 =>
                      (lp_L_fitted_188 sc BIG p0 p2 p3 x1 (x2 - x2 / x1 * x1) x5 x21 (0 : Int32) (0 : Int32) x10.2).bind fun x26 =>
                      if x26.1 = 0 then
                        some ((0 : Int32), x26.2.2)
                      else
                        (f_X11_count x26.2.2 p0 (2 : Int32)).bind fun x27 =>
                        if x1 = 0 then none else
                        if x27 = ((x21 + (x2 - x2 / x1 * x1)) - (x21 + (x2 - x2 / x1 * x1)) / x1 * x1) then
                          (f_X11_undo x26.2.2 p0 p3).bind fun x30 =>
                          if x30.1 = x26.2.1 then
                            some ((1 : Int32), x30.2)
                          else
                            some ((0 : Int32), x30.2)
                        else
                          some ((0 : Int32), x26.2.2)
                    else
                      some ((0 : Int32), x10.2)
            else
              some ((0 : Int32), x10.2)
          else
            some ((0 : Int32), x10.2)
        else
          some ((0 : Int32), x10.2)
def lp_L_ordered_123 (sc : SC) : Nat → Nat → Int32 → Int32 → Int32 → Int32 → Int32 → Int64 → Int32 → Int32 → Int32 → Int32 → Mm → Option (Nat × Mm)
  | 0, _, _, _, _, _, _, _, _, _, _, _, _ => none
  | n+1, v0, v2, v3, v4, v5, v6, v8, v10, v11, v12, v13, μ =>
    if v2 ≤ v13 then
      some (2, μ)
    else
      (f_X11_at μ v0 (1 : Int32) v13).bind fun x20 =>
      (f_L_gave x20.2 v0 x20.1).bind fun x21 =>
      if x21 < 0 then
        some (0, x20.2)
      else
        if v2 ≤ x21 then
          some (0, x20.2)
        else
          if ((v12 >>> (x21 &&& 31)) &&& (1 : Int32)) = (1 : Int32) then
            some (0, x20.2)
          else
            ((
              if x21 = v4 then
                some (1 : Int32)
              else
                some (0 : Int32)
             : Option Int32)).bind fun x25 =>
            ((
              if v13 = v6 then
                some (1 : Int32)
              else
                some (0 : Int32)
             : Option Int32)).bind fun x27 =>
            if x25 = x27 then
              (f_X11_walk x20.2 v0 x21).bind fun x30 =>
              if x30.1 < 0 then
                some (1, x30.2)
              else
                if v13 = v6 then
                  if x30.1 = v5 then
                    (f_X11_due x30.2 v0).bind fun x38 =>
                    if x38.1 = v11 then
                      if v13 = (v2 - (1 : Int32)) then
                        if ((v10 >>> (x21 &&& 31)) &&& (1 : Int32)) = 0 then
                          some (1, x38.2)
                        else
                          lp_L_ordered_123 sc n v0 v2 v3 v4 v5 v6 v8 v10 v11 (v12 ||| ((1 : Int32) <<< (x21 &&& 31))) (v13 + 1) x38.2
                      else
                        lp_L_ordered_123 sc n v0 v2 v3 v4 v5 v6 v8 v10 v11 (v12 ||| ((1 : Int32) <<< (x21 &&& 31))) (v13 + 1) x38.2
                    else
                      some (1, x38.2)
                  else
                    some (1, x30.2)
                else
                  (f_X11_due x30.2 v0).bind fun x33 =>
                  if x33.1 = v11 then
                    if v13 = (v2 - (1 : Int32)) then
                      if ((v10 >>> (x21 &&& 31)) &&& (1 : Int32)) = 0 then
                        some (1, x33.2)
                      else
                        lp_L_ordered_123 sc n v0 v2 v3 v4 v5 v6 v8 v10 v11 (v12 ||| ((1 : Int32) <<< (x21 &&& 31))) (v13 + 1) x33.2
                    else
                      lp_L_ordered_123 sc n v0 v2 v3 v4 v5 v6 v8 v10 v11 (v12 ||| ((1 : Int32) <<< (x21 &&& 31))) (v13 + 1) x33.2
                  else
                    some (1, x33.2)
            else
              some (0, x20.2)
def f_L_ordered (sc : SC) (μ : Mm) (p0 : Nat) (p1 : Nat) (p2 : Int32) (p3 : Int32) : Option (Int32 × Mm) :=
  (f_L_cell sc μ p1 (40 : Int32)).bind fun x1 =>
  if p2 = 0 then none else
  (f_L_cell sc μ p1 (41 : Int32)).bind fun x3 =>
  (f_X11_count μ p0 (1 : Int32)).bind fun x4 =>
  if x4 = 0 then none else
  (f_X11_order μ p0 (x1 - x1 / p2 * p2) (x3 - x3 / x4 * x4) (1 : Int32)).bind fun x6 =>
  (f_X11_quiet x6.2 p0).bind fun x7 =>
  (f_X11_upper x7.2 p0).bind fun x8 =>
  (f_X11_asked x7.2 p0).bind fun x9 =>
  if x7.1 = (1 : Int32) then
    if (lg_cmp x8 (0 : Int64)) < 0 then
      some ((0 : Int32), x7.2)
    else
      ((
        if (lg_cmp x8 (0 : Int64)) ≤ 0 then
          some (0 : Int32)
        else
          some (1 : Int32)
       : Option Int32)).bind fun x12 =>
      ((
        if x9 ≤ 0 then
          some (0 : Int32)
        else
          some (1 : Int32)
       : Option Int32)).bind fun x14 =>
      if x12 = x14 then
        if 0 ≤ x6.1 then
          (f_X11_due x7.2 p0).bind fun x18 =>
          (lp_L_ordered_123 sc BIG p0 p2 p3 (x1 - x1 / p2 * p2) (x3 - x3 / x4 * x4) x6.1 x8 x9 x18.1 (0 : Int32) (0 : Int32) x18.2).bind fun x42 =>
          if x42.1 = 0 then
            some ((0 : Int32), x42.2)
          else
            if x42.1 = 1 then
              some ((0 : Int32), x42.2)
            else
              if (lg_cmp x8 (0 : Int64)) ≤ 0 then
                some ((0 : Int32), x42.2)
              else
                (f_X11_at x42.2 p0 (1 : Int32) p2).bind fun x44 =>
                if x44.1 = (-3 : Int32) then
                  (f_X11_undo x44.2 p0 p3).bind fun x46 =>
                  if x46.1 = p2 then
                    some ((1 : Int32), x46.2)
                  else
                    some ((0 : Int32), x46.2)
                else
                  some ((0 : Int32), x44.2)
        else
          if x6.1 = (-9 : Int32) then
            some ((1 : Int32), x7.2)
          else
            some ((0 : Int32), x7.2)
      else
        some ((0 : Int32), x7.2)
  else
    some ((0 : Int32), x7.2)
def lp_L_paced_4 : Nat → Nat → Int32 → Int32 → Int32 → Mm → Option (Int32 × Mm)
  | 0, _, _, _, _, _ => none
  | n+1, v0, v1, v2, v3, μ =>
    if v1 ≤ v3 then
      some (v2, μ)
    else
      (f_X11_guild μ v0 v3 (4 : Int32)).bind fun x2 =>
      (f_L_gave x2.2 v0 x2.1).bind fun x3 =>
      lp_L_paced_4 n v0 v1 (v2 + x3) (v3 + 1) x2.2
def f_L_paced (μ : Mm) (p0 : Nat) (p1 : Int32) : Option (Int32 × Mm) :=
  (lp_L_paced_4 BIG p0 p1 (0 : Int32) (0 : Int32) μ).bind fun x4 =>
  (f_X11_count x4.2 p0 (1 : Int32)).bind fun x5 =>
  (f_X11_pace x4.2 p0).bind fun x6 =>
  if x4.1 = 0 then
    if x6.1 = (-3 : Int32) then
      (f_X11_count x6.2 p0 (2 : Int32)).bind fun x26 =>
      if x26 = 0 then
        (f_X11_count x6.2 p0 (3 : Int32)).bind fun x28 =>
        if x28 = 0 then
          some ((1 : Int32), x6.2)
        else
          some ((0 : Int32), x6.2)
      else
        some ((0 : Int32), x6.2)
    else
      some ((0 : Int32), x6.2)
  else
    if x6.1 = (1 : Int32) then
      (f_X11_lower x6.2 p0).bind fun x9 =>
      if x9 = 0 then none else
      if (lg_cmp (x4.1.toInt64 - x4.1.toInt64 / x9 * x9) (0 : Int64)) = 0 then
        (f_X11_upper x6.2 p0).bind fun x12 =>
        (f_X11_lower x6.2 p0).bind fun x13 =>
        if x13 = 0 then none else
        (f_X11_count x6.2 p0 (3 : Int32)).bind fun x15 =>
        (f_X11_count x6.2 p0 (2 : Int32)).bind fun x16 =>
        if (lg_cmp (x12 * (x4.1.toInt64 / x13)) ((x15.toInt64 * x5.toInt64) + x16.toInt64)) = 0 then
          (f_X11_hour x6.2 p0).bind fun x18 =>
          (f_X11_count x18.2 p0 (2 : Int32)).bind fun x19 =>
          if x5 = 0 then none else
          if x18.1 = (((12 : Int32) * x19) / x5) then
            (f_X11_asked x18.2 p0).bind fun x22 =>
            (f_X11_count x18.2 p0 (3 : Int32)).bind fun x23 =>
            if x22 = x23 then
              some ((1 : Int32), x18.2)
            else
              some ((0 : Int32), x18.2)
          else
            some ((0 : Int32), x18.2)
        else
          some ((0 : Int32), x6.2)
      else
        some ((0 : Int32), x6.2)
    else
      some ((0 : Int32), x6.2)
def lp_L_law_63 (sc : SC) : Nat → Nat → Nat → Nat → Nat → Int64 → Int32 → Int32 → Int32 → Mm → Option (Nat × Int32 × Mm)
  | 0, _, _, _, _, _, _, _, _, _ => none
  | n+1, v0, v1, v2, v3, v4, v6, v7, v8, μ =>
    if (8 : Int32) ≤ v8 then
      some (1, v7, μ)
    else
      (f_L_cell sc μ v0 ((30 : Int32) + v8)).bind fun x13 =>
      (f_L_goes μ v1 x13 v2 v3).bind fun x14 =>
      if x14.1 < 0 then
        some (0, (0 : Int32), x14.2)
      else
        (f_X11_count x14.2 v1 (4 : Int32)).bind fun x16 =>
        if x16 = (v7 + x14.1) then
          (f_L_paced x14.2 v1 v6).bind fun x18 =>
          if x18.1 = 0 then
            some (0, (0 : Int32), x18.2)
          else
            lp_L_law_63 sc n v0 v1 v2 v3 v4 v6 (v7 + x14.1) (v8 + 1) x18.2
        else
          some (0, (0 : Int32), x14.2)
def f_L_law (sc : SC) (μ : Mm) (p0 : Nat) : Option (Int32 × Mm) :=
  (f_X11_init (nw μ 12 0) (hz μ)).bind fun x2 =>
  (nA x2 21 24 (24 : Int32)).bind fun x3 =>
  (nA x3.2 21 12 (12 : Int32)).bind fun x4 =>
  (f_L_numbers sc x4.2 p0 (10 : Int32) (5 : Int32) (30 : Int32) x3.1).bind fun x5 =>
  (f_L_hall x5 (hz μ) x3.1).bind fun x6 =>
  if x6.1 = 0 then
    some ((0 : Int32), x6.2)
  else
    (f_X11_keep x6.2 (hz μ) (0 : Int32)).bind fun x8 =>
    if x8.1 = 0 then
      (f_X11_digest x8.2 (hz μ)).bind fun x10 =>
      (aI x8.2 x3.1 21 (0 : Int32)).bind fun x11 =>
      (lp_L_law_63 sc BIG p0 (hz μ) x3.1 x4.1 x10 x11 (0 : Int32) (0 : Int32) x8.2).bind fun x20 =>
      if x20.1 = 0 then
        some ((0 : Int32), x20.2.2)
      else
        (f_L_ordered sc x20.2.2 (hz μ) p0 x11 x20.2.1).bind fun x21 =>
        if x21.1 = 0 then
          some ((0 : Int32), x21.2)
        else
          (f_L_cheapest x21.2 (hz μ) x11 x20.2.1).bind fun x23 =>
          if x23.1 = 0 then
            some ((0 : Int32), x23.2)
          else
            (f_L_fewest sc x23.2 (hz μ) p0 x11 x20.2.1).bind fun x25 =>
            if x25.1 = 0 then
              some ((0 : Int32), x25.2)
            else
              (f_L_fitted sc x25.2 (hz μ) p0 x11 x20.2.1).bind fun x27 =>
              if x27.1 = 0 then
                some ((0 : Int32), x27.2)
              else
                (f_L_again sc x27.2 (hz μ) p0 x11 x20.2.1).bind fun x29 =>
                if x29.1 = 0 then
                  some ((0 : Int32), x29.2)
                else
                  (f_L_chances sc x29.2 (hz μ) p0).bind fun x31 =>
                  if x31.1 = 0 then
                    some ((0 : Int32), x31.2)
                  else
                    (f_X11_tear x31.2 (hz μ) (1 : Int32)).bind fun x33 =>
                    if x33.1 = (-1 : Int32) then
                      some ((0 : Int32), x33.2)
                    else
                      (f_X11_undo x33.2 (hz μ) (0 : Int32)).bind fun x35 =>
                      if x35.1 = x20.2.1 then
                        (f_X11_digest x35.2 (hz μ)).bind fun x37 =>
                        if (lg_cmp x37 x10) = 0 then
                          some ((1 : Int32), x35.2)
                        else
                          some ((0 : Int32), x35.2)
                      else
                        some ((0 : Int32), x35.2)
    else
      some ((0 : Int32), x8.2)
