/-! what each method does to the memory: printed by wip/whole/gen out of the bytecode -/
noncomputable section
-- BellRope$Rows.put
def mX8_put (σ : bo_M) (n0 r0 : Nat) (p1 : Int32) (p2 : Int32) : Option bo_M :=
  if p1 < 0 then
   some σ
  else
   if (Int32.ofNat n0) ≤ p1 then
    some σ
   else
    (bo_st n0 σ r0 p1 p2).bind fun σ1 =>
    some σ1
-- BellRope$Reader.append
def mX7_append (σ : bo_M) (p1 : Int32) : Option (Int32 × bo_M) :=
  if (σ 1 4) < 240 then
   (mX8_put σ 240 2 (σ 1 4) p1).bind fun σ1 =>
   (some (bo_up σ1 1 4 ((σ1 1 4) + 1))).bind fun σ2 =>
   some (1, σ2)
  else
   some (0, σ)
-- BellRope.feed
def mX10_feed (σ : bo_M) (p1 : Int32) : Option (Int32 × bo_M) :=
  if p1 < 0 then
   some ((-1000000002), σ)
  else
   if p1 ≤ 255 then
    (mX7_append σ p1).bind fun a1 =>
    if a1.1 = 0 then
     some ((-1000000004), a1.2)
    else
     some ((a1.2 1 4), a1.2)
   else
    some ((-1000000002), σ)
-- BellRope$Rows.zero
def mX8_zero_L7 (n0 : Nat) (f0 : Nat) : Nat → Int32 → bo_M → Option (bo_M)
  | 0, _, _ => none
  | n + 1, w1, σ =>
    if (Int32.ofNat n0) ≤ w1 then
     some σ
    else
     (bo_st n0 σ f0 w1 0).bind fun σ1 =>
     mX8_zero_L7 n0 f0 n (w1 + 1) σ1
def mX8_zero (σ : bo_M) (n0 r0 : Nat) : Option bo_M :=
  (mX8_zero_L7 n0 r0 bo_fuel 0 σ).bind fun a2 =>
  some a2
-- BellRope$Inn.empty
def mX4_empty (σ : bo_M) (o : Nat) : Option bo_M :=
  (some (bo_up σ o 7 0)).bind fun σ1 =>
  (some (bo_up σ1 o 8 0)).bind fun σ2 =>
  (some (bo_up σ2 o 9 0)).bind fun σ3 =>
  (some (bo_up σ3 o 10 0)).bind fun σ4 =>
  (some (bo_up σ4 o 11 0)).bind fun σ5 =>
  (some (bo_up σ5 o 12 0)).bind fun σ6 =>
  (some (bo_up σ6 o 13 0)).bind fun σ7 =>
  (some (bo_up σ7 o 14 0)).bind fun σ8 =>
  (mX8_zero σ8 96 (o + 7)).bind fun σ9 =>
  some σ9
-- BellRope$Rows.at
def mX8_at (σ : bo_M) (n0 r0 : Nat) (p1 : Int32) : Option Int32 :=
  if p1 < 0 then
   some 0
  else
   if (Int32.ofNat n0) ≤ p1 then
    some 0
   else
    (bo_ld n0 σ r0 p1).bind fun v1 =>
    some v1
-- BellRope$Reader.skipBlanks
def mX7_skipBlanks_L0  : Nat → bo_M → Option (bo_M)
  | 0, _ => none
  | n + 1, σ =>
    if (σ 1 4) ≤ (σ 1 1) then
     some σ
    else
     (mX8_at σ 240 2 (σ 1 1)).bind fun v1 =>
     if v1 = 32 then
      (some (bo_up σ 1 1 ((σ 1 1) + 1))).bind fun σ2 =>
      mX7_skipBlanks_L0 n σ2
     else
      some σ
def mX7_skipBlanks (σ : bo_M) : Option bo_M :=
  (mX7_skipBlanks_L0 bo_fuel σ).bind fun a3 =>
  some a3
-- BellRope$Reader.wrong
def mX7_wrong (σ : bo_M) (p1 : Int32) (p2 : Int32) : Option bo_M :=
  if (σ 1 3) = 0 then
   (some (bo_up σ 1 3 p1)).bind fun σ1 =>
   (some (bo_up σ1 1 5 p2)).bind fun σ2 =>
   some σ2
  else
   some σ
-- BellRope$Reader.startClause
def mX7_startClause (σ : bo_M) (p1 : Int32) : Option bo_M :=
  Option.bind (α := bo_M) (if p1 = 0 then
   some σ
  else
   (mX7_wrong σ 3 (σ 1 1)).bind fun σ2 =>
   some σ2) fun a1 =>
  (some (bo_up a1 1 1 ((a1 1 1) + 1))).bind fun σ3 =>
  some σ3
-- BellRope$Reader.isFigure
def mX7_isFigure (σ : bo_M) (p0 : Int32) : Option Int32 :=
  if p0 < 48 then
   some 0
  else
   if 57 < p0 then
    some 0
   else
    some 1
-- BellRope$Reader.readNumber
def mX7_readNumber_L17 (f1 : Int32) (f2 : Int32) : Nat → Int32 → Int32 → bo_M → Option (Int32 × Int32 × bo_M)
  | 0, _, _, _ => none
  | n + 1, w3, w4, σ =>
    if (σ 1 4) ≤ (σ 1 1) then
     some (w3, w4, σ)
    else
     (mX8_at σ 240 2 (σ 1 1)).bind fun v3 =>
     (mX7_isFigure σ v3).bind fun v4 =>
     if v4 = 0 then
      some (w3, w4, σ)
     else
      Option.bind (α := Int32) (if 3 < (w3 + 1) then
       some w4
      else
       (mX8_at σ 240 2 (σ 1 1)).bind fun v6 =>
       some (((w4 * 10) + v6) - 48)) fun a5 =>
      (some (bo_up σ 1 1 ((σ 1 1) + 1))).bind fun σ7 =>
      mX7_readNumber_L17 f1 f2 n (w3 + 1) a5 σ7
def mX7_readNumber (σ : bo_M) (p1 : Int32) (p2 : Int32) : Option (Int32 × bo_M) :=
  (mX7_skipBlanks σ).bind fun σ1 =>
  (some (bo_up σ1 1 2 (σ1 1 1))).bind fun σ2 =>
  (mX7_readNumber_L17 p1 p2 bo_fuel 0 0 σ2).bind fun a8 =>
  Option.bind (α := bo_M) (if a8.1 = 0 then
   (mX7_wrong a8.2.2 1 (a8.2.2 1 2)).bind fun σ13 =>
   some σ13
  else
   if 3 < a8.1 then
    (mX7_wrong a8.2.2 2 (a8.2.2 1 2)).bind fun σ10 =>
    some σ10
   else
    if a8.2.1 < p1 then
     (mX7_wrong a8.2.2 2 (a8.2.2 1 2)).bind fun σ11 =>
     some σ11
    else
     if a8.2.1 ≤ p2 then
      some a8.2.2
     else
      (mX7_wrong a8.2.2 2 (a8.2.2 1 2)).bind fun σ12 =>
      some σ12) fun a9 =>
  some (a8.2.1, a9)
-- BellRope$Reader.endClause
def mX7_endClause (σ : bo_M) : Option bo_M :=
  (mX7_skipBlanks σ).bind fun σ1 =>
  Option.bind (α := bo_M) (if (σ1 1 4) ≤ (σ1 1 1) then
   (mX7_wrong σ1 1 (σ1 1 1)).bind fun σ3 =>
   some σ3
  else
   (mX8_at σ1 240 2 (σ1 1 1)).bind fun v4 =>
   if v4 = 59 then
    some σ1
   else
    (mX7_wrong σ1 1 (σ1 1 1)).bind fun σ5 =>
    some σ5) fun a2 =>
  (some (bo_up a2 1 1 ((a2 1 1) + 1))).bind fun σ6 =>
  some σ6
-- BellRope$Reader.readBell
def mX7_readBell (σ : bo_M) (r1 : Nat) : Option bo_M :=
  (mX7_startClause σ (σ r1 7 &&& 1)).bind fun σ1 =>
  (some (bo_up σ1 r1 7 1)).bind fun σ2 =>
  (mX7_readNumber σ2 0 1).bind fun a3 =>
  (some (bo_up a3.2 r1 8 a3.1)).bind fun σ4 =>
  (mX7_readNumber σ4 0 9).bind fun a5 =>
  (some (bo_up a5.2 r1 9 a5.1)).bind fun σ6 =>
  (mX7_readNumber σ6 0 127).bind fun a7 =>
  (some (bo_up a7.2 r1 10 a7.1)).bind fun σ8 =>
  (mX7_endClause σ8).bind fun σ9 =>
  some σ9
-- BellRope$Reader.readDrinker
def mX7_readDrinker (σ : bo_M) (r1 : Nat) : Option bo_M :=
  Option.bind (α := Int32) (if (σ r1 11) < 7 then
   some 0
  else
   some 1) fun a1 =>
  (mX7_startClause σ a1).bind fun σ2 =>
  (mX7_readNumber σ2 1 40).bind fun a3 =>
  (mX8_put a3.2 7 (r1 + 1) (σ2 r1 11) a3.1).bind fun σ4 =>
  (mX7_readNumber σ4 1 20).bind fun a5 =>
  (mX8_put a5.2 7 (r1 + 2) (σ4 r1 11) a5.1).bind fun σ6 =>
  (mX7_readNumber σ6 0 100).bind fun a7 =>
  (mX8_put a7.2 7 (r1 + 3) (σ6 r1 11) a7.1).bind fun σ8 =>
  (mX7_endClause σ8).bind fun σ9 =>
  (some (bo_up σ9 r1 11 ((σ9 r1 11) + 1))).bind fun σ10 =>
  some σ10
-- BellRope$Reader.readSexton
def mX7_readSexton_L57 (f1 : Nat) (f2 : Int32) (f3 : Int32) : Nat → Int32 → bo_M → Option (bo_M)
  | 0, _, _ => none
  | n + 1, w4, σ =>
    if f3 ≤ w4 then
     some σ
    else
     if 96 ≤ w4 then
      some σ
     else
      (mX8_put σ 96 (f1 + 7) (f2 + w4) 1).bind fun σ7 =>
      mX7_readSexton_L57 f1 f2 f3 n (w4 + 1) σ7
def mX7_readSexton (σ : bo_M) (r1 : Nat) : Option bo_M :=
  Option.bind (α := Int32) (if (σ r1 12) < 4 then
   some 0
  else
   some 1) fun a1 =>
  (mX7_startClause σ a1).bind fun σ2 =>
  (mX7_readNumber σ2 0 95).bind fun a3 =>
  (mX7_readNumber a3.2 1 (if (96 - a3.1) < 24 then (96 - a3.1) else 24)).bind fun a4 =>
  (mX7_endClause a4.2).bind fun σ5 =>
  (some (bo_up σ5 r1 12 ((σ5 r1 12) + 1))).bind fun σ6 =>
  (mX7_readSexton_L57 r1 a3.1 a4.1 bo_fuel 0 σ6).bind fun a8 =>
  some a8
-- BellRope$Reader.readGoer
def mX7_readGoer (σ : bo_M) (r1 : Nat) : Option bo_M :=
  Option.bind (α := Int32) (if (σ r1 13) < 6 then
   some 0
  else
   some 1) fun a1 =>
  (mX7_startClause σ a1).bind fun σ2 =>
  (mX7_readNumber σ2 0 95).bind fun a3 =>
  (mX8_put a3.2 6 (r1 + 4) (σ2 r1 13) a3.1).bind fun σ4 =>
  (mX7_readNumber σ4 0 40).bind fun a5 =>
  (mX8_put a5.2 6 (r1 + 5) (σ4 r1 13) a5.1).bind fun σ6 =>
  (mX7_endClause σ6).bind fun σ7 =>
  (some (bo_up σ7 r1 13 ((σ7 r1 13) + 1))).bind fun σ8 =>
  some σ8
-- BellRope$Inn.signalsOf
def mX4_signalsOf_L4 (σ : bo_M) (f0 : Nat) (f1 : Int32) : Nat → Int32 → Int32 → Option (Int32)
  | 0, _, _ => none
  | n + 1, w2, w3 =>
    if (σ f0 14) ≤ w3 then
     some w2
    else
     (mX8_at σ 5 (f0 + 6) w3).bind fun v1 =>
     Option.bind (α := Int32) (if v1 = f1 then
      some (w2 ||| (1 <<< (w3 &&& 31)))
     else
      some w2) fun a2 =>
     mX4_signalsOf_L4 σ f0 f1 n a2 (w3 + 1)
def mX4_signalsOf (σ : bo_M) (o : Nat) (p1 : Int32) : Option Int32 :=
  (mX4_signalsOf_L4 σ o p1 bo_fuel 0 0).bind fun a3 =>
  some a3
-- BellRope$Reader.readSignal
def mX7_readSignal (σ : bo_M) (r1 : Nat) : Option bo_M :=
  Option.bind (α := Int32) (if (σ r1 14) < 5 then
   some 0
  else
   some 1) fun a1 =>
  (mX7_startClause σ a1).bind fun σ2 =>
  (mX7_readNumber σ2 1 16).bind fun a3 =>
  (mX4_signalsOf a3.2 r1 a3.1).bind fun v4 =>
  Option.bind (α := bo_M) (if v4 = 0 then
   some a3.2
  else
   (mX7_wrong a3.2 4 (a3.2 1 2)).bind fun σ6 =>
   some σ6) fun a5 =>
  (mX7_endClause a5).bind fun σ7 =>
  (mX8_put σ7 5 (r1 + 6) (σ7 r1 14) a3.1).bind fun σ8 =>
  (some (bo_up σ8 r1 14 ((σ8 r1 14) + 1))).bind fun σ9 =>
  some σ9
-- BellRope$Reader.readClause
def mX7_readClause (σ : bo_M) (r1 : Nat) : Option bo_M :=
  (mX8_at σ 240 2 (σ 1 1)).bind fun v1 =>
  if (σ r1 7 &&& 1) = 0 then
   if v1 = 98 then
    if v1 = 98 then
     (mX7_readBell σ r1).bind fun σ14 =>
     some σ14
    else
     if v1 = 100 then
      (mX7_readDrinker σ r1).bind fun σ16 =>
      some σ16
     else
      if v1 = 103 then
       (mX7_readGoer σ r1).bind fun σ18 =>
       some σ18
      else
       if v1 = 110 then
        (mX7_readSignal σ r1).bind fun σ20 =>
        some σ20
       else
        if v1 = 115 then
         (mX7_readSexton σ r1).bind fun σ22 =>
         some σ22
        else
         (mX7_wrong σ 1 (σ 1 1)).bind fun σ23 =>
         some σ23
   else
    (mX7_wrong σ 1 (σ 1 1)).bind fun σ24 =>
    some σ24
  else
   if v1 = 98 then
    (mX7_readBell σ r1).bind fun σ3 =>
    some σ3
   else
    if v1 = 100 then
     (mX7_readDrinker σ r1).bind fun σ5 =>
     some σ5
    else
     if v1 = 103 then
      (mX7_readGoer σ r1).bind fun σ7 =>
      some σ7
     else
      if v1 = 110 then
       (mX7_readSignal σ r1).bind fun σ9 =>
       some σ9
      else
       if v1 = 115 then
        (mX7_readSexton σ r1).bind fun σ11 =>
        some σ11
       else
        (mX7_wrong σ 1 (σ 1 1)).bind fun σ12 =>
        some σ12
-- BellRope$Reader.read
def mX7_read_L25 (f1 : Nat) : Nat → Int32 → bo_M → Option (bo_M)
  | 0, _, _ => none
  | n + 1, w2, σ =>
    if 240 ≤ w2 then
     some σ
    else
     if (σ 1 4) ≤ (σ 1 1) then
      some σ
     else
      if (σ 1 3) = 0 then
       (mX7_readClause σ f1).bind fun σ6 =>
       (mX7_skipBlanks σ6).bind fun σ7 =>
       mX7_read_L25 f1 n (w2 + 1) σ7
      else
       some σ
def mX7_read (σ : bo_M) (r1 : Nat) : Option (Int32 × bo_M) :=
  (some (bo_up σ 1 1 0)).bind fun σ1 =>
  (some (bo_up σ1 1 3 0)).bind fun σ2 =>
  (some (bo_up σ2 1 5 (-1))).bind fun σ3 =>
  (mX4_empty σ3 r1).bind fun σ4 =>
  (mX7_skipBlanks σ4).bind fun σ5 =>
  (mX7_read_L25 r1 bo_fuel 0 σ5).bind fun a8 =>
  some ((a8 1 3), a8)
-- BellRope$Evening.empty
def mX2_empty (σ : bo_M) (o : Nat) : Option bo_M :=
  (some (bo_up σ o 4 0)).bind fun σ1 =>
  (some (bo_up σ1 o 5 0)).bind fun σ2 =>
  (some (bo_up σ2 o 6 0)).bind fun σ3 =>
  (some (bo_up σ3 o 7 0)).bind fun σ4 =>
  (some (bo_up σ4 o 8 0)).bind fun σ5 =>
  (some (bo_up σ5 o 9 0)).bind fun σ6 =>
  (mX8_zero σ6 7 (o + 1)).bind fun σ7 =>
  (mX8_zero σ7 7 (o + 2)).bind fun σ8 =>
  some σ8
-- BellRope.inn
def mX10_inn (σ : bo_M) : Option (Int32 × bo_M) :=
  (mX7_read σ (bo_inn (σ 0 10))).bind fun a1 =>
  (some (bo_up a1.2 1 4 0)).bind fun σ2 =>
  if a1.1 = 0 then
   (some (bo_up σ2 0 9 (σ2 0 10))).bind fun σ3 =>
   (some (bo_up σ3 0 10 (σ2 0 9))).bind fun σ4 =>
   (mX2_empty σ4 50).bind fun σ5 =>
   (some (bo_up σ5 3 1 0)).bind fun σ6 =>
   (some (bo_up σ6 5 2 0)).bind fun σ7 =>
   (some (bo_up σ7 11 2 0)).bind fun σ8 =>
   (some (bo_up σ8 24 4 0)).bind fun σ9 =>
   (some (bo_up σ9 29 2 0)).bind fun σ10 =>
   some ((σ10 (bo_inn (σ10 0 9)) 11), σ10)
  else
   some (((-10) - a1.1), σ2)
-- BellRope.fault
def mX10_fault (σ : bo_M) : Option Int32 :=
  some (σ 1 5)
-- BellRope.bit
def mX10_bit (σ : bo_M) (p0 : Int32) (p1 : Int32) : Option Int32 :=
  some ((p0 >>> (p1 &&& 31)) &&& 1)
-- BellRope$Evening.isWet
def mX2_isWet (σ : bo_M) (o : Nat) (r1 : Nat) : Option Int32 :=
  if (σ o 9) = 0 then
   (mX10_bit σ (σ r1 10) (bo_irm ((σ o 4) / 96) 7)).bind fun v1 =>
   if v1 = 1 then
    some 1
   else
    some 0
  else
   if (σ o 9) = 1 then
    some 1
   else
    some 0
-- BellRope$Evening.logs
def mX2_logs (σ : bo_M) (o : Nat) : Option Int32 :=
  some (if 40 < (σ o 4) then 40 else (σ o 4))
-- BellRope.told
def mX10_told (σ : bo_M) (p1 : Int32) : Option Int32 :=
  if p1 = 0 then
   some (σ (bo_inn (σ 0 9)) 8)
  else
   if p1 = 1 then
    some (σ (bo_inn (σ 0 9)) 9)
   else
    if p1 = 2 then
     some (σ (bo_inn (σ 0 9)) 11)
    else
     if p1 = 3 then
      some (σ (bo_inn (σ 0 9)) 13)
     else
      if p1 = 4 then
       some (σ (bo_inn (σ 0 9)) 14)
      else
       if p1 = 5 then
        some (σ 1 4)
       else
        if p1 = 6 then
         some (σ 50 4)
        else
         if p1 = 7 then
          some (σ 50 5)
         else
          if p1 = 8 then
           some (σ 50 6)
          else
           if p1 = 9 then
            (mX2_isWet σ 50 (bo_inn (σ 0 9))).bind fun v11 =>
            if v11 = 0 then
             some 0
            else
             some 1
           else
            if p1 = 10 then
             some (σ 50 7)
            else
             if p1 = 11 then
              some (σ 50 8)
             else
              if p1 = 12 then
               (mX2_logs σ 50).bind fun v15 =>
               some v15
              else
               if p1 = 13 then
                some (σ 50 9)
               else
                if p1 = 14 then
                 some (σ 24 4)
                else
                 if p1 = 15 then
                  some (σ 29 2)
                 else
                  if p1 = 16 then
                   some (σ 3 1)
                  else
                   some (-1000000002)
-- BellRope$Inn.hasDrinker
def mX4_hasDrinker (σ : bo_M) (o : Nat) (p1 : Int32) : Option Int32 :=
  if p1 < 0 then
   some 0
  else
   if (σ o 11) ≤ p1 then
    some 0
   else
    some 1
-- BellRope$Evening.due
def mX2_due_L5 (σ : bo_M) (f0 : Nat) (f1 : Nat) (f2 : Int32) : Nat → Int32 → Int32 → Option (Int32)
  | 0, _, _ => none
  | n + 1, w3, w4 =>
    if (σ f1 11) ≤ w4 then
     some w3
    else
     (mX8_at σ 7 (f1 + 1) w4).bind fun v1 =>
     Option.bind (α := Int32) (if v1 ≤ 0 then
      some w3
     else
      (mX8_at σ 7 (f0 + 2) w4).bind fun v3 =>
      (bo_iremo (f2 + v3) v1).bind fun v4 =>
      if v4 = 0 then
       some (w3 ||| (1 <<< (w4 &&& 31)))
      else
       some w3) fun a2 =>
     mX2_due_L5 σ f0 f1 f2 n a2 (w4 + 1)
def mX2_due (σ : bo_M) (o : Nat) (r1 : Nat) (p2 : Int32) : Option Int32 :=
  (mX2_due_L5 σ o r1 p2 bo_fuel 0 0).bind fun a5 =>
  some a5
-- BellRope$Evening.startsDay
def mX2_startsDay (σ : bo_M) (o : Nat) : Option Int32 :=
  if (bo_irm (σ o 4) 96) = 0 then
   some 1
  else
   some 0
-- BellRope$Evening.full
def mX2_full_L13 (σ : bo_M) (f0 : Nat) (f1 : Nat) : Nat → Int32 → Int32 → Option (Int32)
  | 0, _, _ => none
  | n + 1, w2, w3 =>
    if (σ f1 11) ≤ w3 then
     some w2
    else
     (mX8_at σ 7 (f0 + 1) w3).bind fun v2 =>
     (mX8_at σ 7 (f1 + 2) w3).bind fun v3 =>
     Option.bind (α := Int32) (if v2 < v3 then
      some w2
     else
      some (w2 ||| (1 <<< (w3 &&& 31)))) fun a4 =>
     mX2_full_L13 σ f0 f1 n a4 (w3 + 1)
def mX2_full (σ : bo_M) (o : Nat) (r1 : Nat) : Option Int32 :=
  (mX2_startsDay σ o).bind fun v1 =>
  if v1 = 0 then
   (mX2_full_L13 σ o r1 bo_fuel 0 0).bind fun a5 =>
   some a5
  else
   some 0
-- BellRope$Evening.thirsty
def mX2_thirsty (σ : bo_M) (o : Nat) (r1 : Nat) : Option Int32 :=
  (mX2_due σ o r1 (σ o 4)).bind fun v1 =>
  (mX2_full σ o r1).bind fun v2 =>
  some ((v1 &&& (σ o 5)) &&& (v2 ^^^ (-1)))
-- BellRope.drinker
def mX10_drinker (σ : bo_M) (p1 : Int32) (p2 : Int32) : Option Int32 :=
  (mX4_hasDrinker σ (bo_inn (σ 0 9)) p1).bind fun v1 =>
  if v1 = 0 then
   some (-1000000001)
  else
   if p2 = 0 then
    (mX8_at σ 7 ((bo_inn (σ 0 9)) + 1) p1).bind fun v3 =>
    some v3
   else
    if p2 = 1 then
     (mX8_at σ 7 ((bo_inn (σ 0 9)) + 2) p1).bind fun v5 =>
     some v5
    else
     if p2 = 2 then
      (mX8_at σ 7 ((bo_inn (σ 0 9)) + 3) p1).bind fun v7 =>
      some v7
     else
      if p2 = 3 then
       (mX10_bit σ (σ 50 5) p1).bind fun v9 =>
       some v9
      else
       if p2 = 4 then
        (mX8_at σ 7 51 p1).bind fun v11 =>
        some v11
       else
        if p2 = 5 then
         (mX8_at σ 7 52 p1).bind fun v13 =>
         some v13
        else
         if p2 = 6 then
          (mX2_thirsty σ 50 (bo_inn (σ 0 9))).bind fun v15 =>
          (mX10_bit σ v15 p1).bind fun v16 =>
          some v16
         else
          some (-1000000002)
-- BellRope$Inn.hasGoer
def mX4_hasGoer (σ : bo_M) (o : Nat) (p1 : Int32) : Option Int32 :=
  if p1 < 0 then
   some 0
  else
   if (σ o 13) ≤ p1 then
    some 0
   else
    some 1
-- BellRope.goer
def mX10_goer (σ : bo_M) (p1 : Int32) (p2 : Int32) : Option Int32 :=
  (mX4_hasGoer σ (bo_inn (σ 0 9)) p1).bind fun v1 =>
  if v1 = 0 then
   some (-1000000001)
  else
   if p2 = 0 then
    (mX8_at σ 6 ((bo_inn (σ 0 9)) + 4) p1).bind fun v3 =>
    some v3
   else
    if p2 = 1 then
     (mX8_at σ 6 ((bo_inn (σ 0 9)) + 5) p1).bind fun v5 =>
     some v5
    else
     some (-1000000002)
-- BellRope.signal
def mX10_signal (σ : bo_M) (p1 : Int32) : Option Int32 :=
  if p1 < 0 then
   some (-1000000001)
  else
   if p1 < (σ (bo_inn (σ 0 9)) 14) then
    (mX8_at σ 5 ((bo_inn (σ 0 9)) + 6) p1).bind fun v1 =>
    some v1
   else
    some (-1000000001)
-- BellRope$Evening.heardAgo
def mX2_heardAgo (σ : bo_M) (o : Nat) (p1 : Int32) : Option Int32 :=
  (mX8_at σ 40 (o + 3) (bo_irm (((σ o 4) - 1) - p1) 40)).bind fun v1 =>
  some v1
-- BellRope$Evening.rungAgo
def mX2_rungAgo (σ : bo_M) (o : Nat) (p1 : Int32) : Option Int32 :=
  (mX8_at σ 40 (o + 4) (bo_irm (((σ o 4) - 1) - p1) 40)).bind fun v1 =>
  some v1
-- BellRope.logged
def mX10_logged (σ : bo_M) (p1 : Int32) (p2 : Int32) : Option Int32 :=
  if p2 < 0 then
   some (-1000000002)
  else
   if p2 ≤ 1 then
    if p1 < 0 then
     some (-1)
    else
     (mX2_logs σ 50).bind fun v1 =>
     if p1 < v1 then
      if p2 = 0 then
       (mX2_heardAgo σ 50 p1).bind fun v3 =>
       some v3
      else
       (mX2_rungAgo σ 50 p1).bind fun v2 =>
       some v2
     else
      some (-1)
   else
    some (-1000000002)
-- BellRope.refused
def mX10_refused (σ : bo_M) (p1 : Int32) : Option Int32 :=
  if p1 = 0 then
   if (σ (bo_inn (σ 0 9)) 7 &&& 1) = 0 then
    some (-1000000003)
   else
    some 0
  else
   some (-1000000002)
-- BellRope.refusedQuarters
def mX10_refusedQuarters (σ : bo_M) (p1 : Int32) : Option Int32 :=
  Option.bind (α := Int32) (if p1 < 1 then
   some 1
  else
   if p1 ≤ 96 then
    some 0
   else
    some 1) fun a1 =>
  (mX10_refused σ a1).bind fun v2 =>
  if v2 = 0 then
   if (σ 50 4) ≤ 90000 then
    some 0
   else
    some (-1000000004)
  else
   some v2
-- BellRope$Past.loseOldest
def mX6_loseOldest_L2  : Nat → Int32 → bo_M → Option (bo_M)
  | 0, _, _ => none
  | n + 1, w1, σ =>
    if 16 ≤ w1 then
     some σ
    else
     (bo_ld 16 σ 4 (w1 - 1)).bind fun v1 =>
     (bo_ld 16 σ 4 w1).bind fun v2 =>
     (bo_st 16 σ 4 (w1 - 1) v2).bind fun σ3 =>
     (bo_st 16 σ3 4 w1 v1).bind fun σ4 =>
     mX6_loseOldest_L2 n (w1 + 1) σ4
def mX6_loseOldest (σ : bo_M) : Option bo_M :=
  (mX6_loseOldest_L2 bo_fuel 1 σ).bind fun a5 =>
  (some (bo_up a5 3 1 ((a5 3 1) - 1))).bind fun σ6 =>
  some σ6
-- BellRope$Past.evening
def mX6_evening (σ : bo_M) (p1 : Int32) : Option (Option Int32) :=
  if p1 < 0 then
   some none
  else
   if 16 ≤ p1 then
    some none
   else
    (bo_ld 16 σ 4 p1).bind fun v1 =>
    some (some v1)
-- BellRope$Rows.copy
def mX8_copy_L11 (n0 : Nat) (f0 : Nat) (n1 : Nat) (f1 : Nat) : Nat → Int32 → bo_M → Option (bo_M)
  | 0, _, _ => none
  | n + 1, w2, σ =>
    if (Int32.ofNat n0) ≤ w2 then
     some σ
    else
     if (Int32.ofNat n1) ≤ w2 then
      some σ
     else
      (bo_ld n0 σ f0 w2).bind fun v1 =>
      (bo_st n1 σ f1 w2 v1).bind fun σ2 =>
      mX8_copy_L11 n0 f0 n1 f1 n (w2 + 1) σ2
def mX8_copy (σ : bo_M) (n0 r0 : Nat) (n1 r1 : Nat) : Option bo_M :=
  (mX8_copy_L11 n0 r0 n1 r1 bo_fuel 0 σ).bind fun a3 =>
  some a3
-- BellRope$Evening.become
def mX2_become (σ : bo_M) (o : Nat) (r1 : Nat) : Option bo_M :=
  (some (bo_up σ o 4 (σ r1 4))).bind fun σ1 =>
  (some (bo_up σ1 o 5 (σ1 r1 5))).bind fun σ2 =>
  (some (bo_up σ2 o 6 (σ2 r1 6))).bind fun σ3 =>
  (some (bo_up σ3 o 7 (σ3 r1 7))).bind fun σ4 =>
  (some (bo_up σ4 o 8 (σ4 r1 8))).bind fun σ5 =>
  (some (bo_up σ5 o 9 (σ5 r1 9))).bind fun σ6 =>
  (mX8_copy σ6 7 (r1 + 1) 7 (o + 1)).bind fun σ7 =>
  (mX8_copy σ7 7 (r1 + 2) 7 (o + 2)).bind fun σ8 =>
  (mX8_copy σ8 40 (r1 + 3) 40 (o + 3)).bind fun σ9 =>
  (mX8_copy σ9 40 (r1 + 4) 40 (o + 4)).bind fun σ10 =>
  some σ10
-- BellRope$Past.note
def mX6_note (σ : bo_M) (r1 : Nat) : Option bo_M :=
  Option.bind (α := bo_M) (if (σ 3 1) < 16 then
   some σ
  else
   (mX6_loseOldest σ).bind fun σ2 =>
   some σ2) fun a1 =>
  (mX6_evening a1 (a1 3 1)).bind fun qc3 =>
  bo_oc qc3
   (some a1)
   (fun c3 =>
  (mX2_become a1 (bo_ev c3) r1).bind fun σ4 =>
  (some (bo_up σ4 3 1 ((σ4 3 1) + 1))).bind fun σ5 =>
  some σ5)
-- java/lang/Integer.bitCount
def mJ6_bitCount_0f7a4 (σ : bo_M) (p0 : Int32) : Option Int32 :=
  some ((((((((p0 - ((((p0).toUInt32 >>> ((1 : Int32).toUInt32 &&& Int32.toUInt32 31)).toInt32) &&& 1431655765)) &&& 858993459) + (((((p0 - ((((p0).toUInt32 >>> ((1 : Int32).toUInt32 &&& Int32.toUInt32 31)).toInt32) &&& 1431655765))).toUInt32 >>> ((2 : Int32).toUInt32 &&& Int32.toUInt32 31)).toInt32) &&& 858993459)) + ((((((p0 - ((((p0).toUInt32 >>> ((1 : Int32).toUInt32 &&& Int32.toUInt32 31)).toInt32) &&& 1431655765)) &&& 858993459) + (((((p0 - ((((p0).toUInt32 >>> ((1 : Int32).toUInt32 &&& Int32.toUInt32 31)).toInt32) &&& 1431655765))).toUInt32 >>> ((2 : Int32).toUInt32 &&& Int32.toUInt32 31)).toInt32) &&& 858993459))).toUInt32 >>> ((4 : Int32).toUInt32 &&& Int32.toUInt32 31)).toInt32)) &&& 252645135) + ((((((((p0 - ((((p0).toUInt32 >>> ((1 : Int32).toUInt32 &&& Int32.toUInt32 31)).toInt32) &&& 1431655765)) &&& 858993459) + (((((p0 - ((((p0).toUInt32 >>> ((1 : Int32).toUInt32 &&& Int32.toUInt32 31)).toInt32) &&& 1431655765))).toUInt32 >>> ((2 : Int32).toUInt32 &&& Int32.toUInt32 31)).toInt32) &&& 858993459)) + ((((((p0 - ((((p0).toUInt32 >>> ((1 : Int32).toUInt32 &&& Int32.toUInt32 31)).toInt32) &&& 1431655765)) &&& 858993459) + (((((p0 - ((((p0).toUInt32 >>> ((1 : Int32).toUInt32 &&& Int32.toUInt32 31)).toInt32) &&& 1431655765))).toUInt32 >>> ((2 : Int32).toUInt32 &&& Int32.toUInt32 31)).toInt32) &&& 858993459))).toUInt32 >>> ((4 : Int32).toUInt32 &&& Int32.toUInt32 31)).toInt32)) &&& 252645135)).toUInt32 >>> ((8 : Int32).toUInt32 &&& Int32.toUInt32 31)).toInt32)) + (((((((((p0 - ((((p0).toUInt32 >>> ((1 : Int32).toUInt32 &&& Int32.toUInt32 31)).toInt32) &&& 1431655765)) &&& 858993459) + (((((p0 - ((((p0).toUInt32 >>> ((1 : Int32).toUInt32 &&& Int32.toUInt32 31)).toInt32) &&& 1431655765))).toUInt32 >>> ((2 : Int32).toUInt32 &&& Int32.toUInt32 31)).toInt32) &&& 858993459)) + ((((((p0 - ((((p0).toUInt32 >>> ((1 : Int32).toUInt32 &&& Int32.toUInt32 31)).toInt32) &&& 1431655765)) &&& 858993459) + (((((p0 - ((((p0).toUInt32 >>> ((1 : Int32).toUInt32 &&& Int32.toUInt32 31)).toInt32) &&& 1431655765))).toUInt32 >>> ((2 : Int32).toUInt32 &&& Int32.toUInt32 31)).toInt32) &&& 858993459))).toUInt32 >>> ((4 : Int32).toUInt32 &&& Int32.toUInt32 31)).toInt32)) &&& 252645135) + ((((((((p0 - ((((p0).toUInt32 >>> ((1 : Int32).toUInt32 &&& Int32.toUInt32 31)).toInt32) &&& 1431655765)) &&& 858993459) + (((((p0 - ((((p0).toUInt32 >>> ((1 : Int32).toUInt32 &&& Int32.toUInt32 31)).toInt32) &&& 1431655765))).toUInt32 >>> ((2 : Int32).toUInt32 &&& Int32.toUInt32 31)).toInt32) &&& 858993459)) + ((((((p0 - ((((p0).toUInt32 >>> ((1 : Int32).toUInt32 &&& Int32.toUInt32 31)).toInt32) &&& 1431655765)) &&& 858993459) + (((((p0 - ((((p0).toUInt32 >>> ((1 : Int32).toUInt32 &&& Int32.toUInt32 31)).toInt32) &&& 1431655765))).toUInt32 >>> ((2 : Int32).toUInt32 &&& Int32.toUInt32 31)).toInt32) &&& 858993459))).toUInt32 >>> ((4 : Int32).toUInt32 &&& Int32.toUInt32 31)).toInt32)) &&& 252645135)).toUInt32 >>> ((8 : Int32).toUInt32 &&& Int32.toUInt32 31)).toInt32))).toUInt32 >>> ((16 : Int32).toUInt32 &&& Int32.toUInt32 31)).toInt32)) &&& 63)
-- BellRope$Inn.sextonAt
def mX4_sextonAt (σ : bo_M) (o : Nat) (p1 : Int32) : Option Int32 :=
  (mX8_at σ 96 (o + 7) p1).bind fun v1 =>
  if v1 = 1 then
   some 1
  else
   some 0
-- BellRope$Inn.echoed
def mX4_echoed (σ : bo_M) (o : Nat) (p1 : Int32) (p2 : Int32) : Option Int32 :=
  if (if 0 < (p1 - p2) then (p1 - p2) else 0) < 1 then
   some 0
  else
   some ((if 0 < (p1 - p2) then (p1 - p2) else 0) + (σ o 8))
-- BellRope$Evening.heardOf
def mX2_heardOf (σ : bo_M) (o : Nat) (r1 : Nat) (p2 : Int32) : Option Int32 :=
  Option.bind (α := Int32) (if 0 < (σ o 7) then
   some 1
  else
   (mX4_sextonAt σ r1 (bo_irm (σ o 4) 96)).bind fun v2 =>
   if v2 = 0 then
    some 0
   else
    some 1) fun a1 =>
  (mX2_isWet σ o r1).bind fun v3 =>
  Option.bind (α := Int32) (if v3 = 0 then
   some p2
  else
   some (p2 / 2)) fun a4 =>
  Option.bind (α := Int32) (if a1 = 0 then
   some 0
  else
   some (σ r1 9)) fun a5 =>
  (mX4_echoed σ r1 a4 a5).bind fun v6 =>
  some v6
-- BellRope$Evening.pass
def mX2_pass_L36 (f0 : Nat) (f1 : Nat) (f2 : Int32) (f3 : Int32) (f4 : Int32) : Nat → Int32 → bo_M → Option (bo_M)
  | 0, _, _ => none
  | n + 1, w5, σ =>
    if (σ f1 11) ≤ w5 then
     some σ
    else
     (mX8_at σ 7 (f0 + 1) w5).bind fun v7 =>
     (mX10_bit σ f2 w5).bind fun v8 =>
     (mX8_put σ 7 (f0 + 1) w5 (v7 + v8)).bind fun σ9 =>
     mX2_pass_L36 f0 f1 f2 f3 f4 n (w5 + 1) σ9
def mX2_pass (σ : bo_M) (o : Nat) (r1 : Nat) : Option (Int32 × bo_M) :=
  (mX2_thirsty σ o r1).bind fun v1 =>
  (mJ6_bitCount_0f7a4 σ v1).bind fun v2 =>
  (mX2_heardOf σ o r1 v2).bind fun v3 =>
  (mX2_startsDay σ o).bind fun v4 =>
  Option.bind (α := bo_M) (if v4 = 0 then
   some σ
  else
   (mX8_zero σ 7 (o + 1)).bind fun σ6 =>
   some σ6) fun a5 =>
  (mX2_pass_L36 o r1 v1 v2 v3 bo_fuel 0 a5).bind fun a10 =>
  (some (bo_up a10 o 8 ((a10 o 8) + v2))).bind fun σ11 =>
  (mX8_put σ11 40 (o + 3) (bo_irm (σ11 o 4) 40) v3).bind fun σ12 =>
  (mX8_put σ12 40 (o + 4) (bo_irm (σ12 o 4) 40) v2).bind fun σ13 =>
  Option.bind (α := bo_M) (if v3 < 1 then
   some σ13
  else
   (some (bo_up σ13 o 6 (bo_irm ((σ13 o 6) + 1) 12))).bind fun σ15 =>
   some σ15) fun a14 =>
  (some (bo_up a14 o 7 (if 0 < ((a14 o 7) - 1) then ((a14 o 7) - 1) else 0))).bind fun σ16 =>
  (some (bo_up σ16 o 4 ((σ16 o 4) + 1))).bind fun σ17 =>
  some (v3, σ17)
-- BellRope.quarter
def mX10_quarter_L28 (f1 : Int32) : Nat → Int32 → Int32 → bo_M → Option (Int32 × bo_M)
  | 0, _, _, _ => none
  | n + 1, w3, w4, σ =>
    if f1 ≤ w4 then
     some (w3, σ)
    else
     (mX2_pass σ 50 (bo_inn (σ 0 9))).bind fun a3 =>
     mX10_quarter_L28 f1 n a3.1 (w4 + 1) a3.2
def mX10_quarter (σ : bo_M) (p1 : Int32) : Option (Int32 × bo_M) :=
  (mX10_refusedQuarters σ p1).bind fun v1 =>
  if v1 = 0 then
   (mX6_note σ 50).bind fun σ2 =>
   (mX10_quarter_L28 p1 bo_fuel 0 0 σ2).bind fun a4 =>
   some (a4.1, a4.2)
  else
   some (v1, σ)
-- BellRope.come
def mX10_come (σ : bo_M) (p1 : Int32) : Option (Int32 × bo_M) :=
  (mX4_hasDrinker σ (bo_inn (σ 0 9)) p1).bind fun v1 =>
  if v1 = 0 then
   some ((-1000000001), σ)
  else
   (mX10_bit σ (σ 50 5) p1).bind fun v2 =>
   if v2 = 1 then
    some ((-1000000003), σ)
   else
    (mX6_note σ 50).bind fun σ3 =>
    (some (bo_up σ3 50 5 ((σ3 50 5) ||| (1 <<< (p1 &&& 31))))).bind fun σ4 =>
    some ((σ4 50 5), σ4)
-- BellRope.go
def mX10_go (σ : bo_M) (p1 : Int32) : Option (Int32 × bo_M) :=
  (mX4_hasDrinker σ (bo_inn (σ 0 9)) p1).bind fun v1 =>
  if v1 = 0 then
   some ((-1000000001), σ)
  else
   (mX10_bit σ (σ 50 5) p1).bind fun v2 =>
   if v2 = 0 then
    some ((-1000000003), σ)
   else
    (mX6_note σ 50).bind fun σ3 =>
    (some (bo_up σ3 50 5 ((σ3 50 5) &&& ((1 <<< (p1 &&& 31)) ^^^ (-1))))).bind fun σ4 =>
    some ((σ4 50 5), σ4)
-- BellRope.treat
def mX10_treat (σ : bo_M) (p1 : Int32) (p2 : Int32) : Option (Int32 × bo_M) :=
  (mX4_hasDrinker σ (bo_inn (σ 0 9)) p1).bind fun v1 =>
  if v1 = 0 then
   some ((-1000000001), σ)
  else
   if p2 < 1 then
    some ((-1000000002), σ)
   else
    if p2 ≤ 20 then
     (mX6_note σ 50).bind fun σ2 =>
     (mX8_at σ2 7 51 p1).bind fun v3 =>
     (mX8_put σ2 7 51 p1 (if 0 < (v3 - p2) then (v3 - p2) else 0)).bind fun σ4 =>
     some ((if 0 < (v3 - p2) then (v3 - p2) else 0), σ4)
    else
     some ((-1000000002), σ)
-- BellRope.turn
def mX10_turn (σ : bo_M) (p1 : Int32) (p2 : Int32) : Option (Int32 × bo_M) :=
  (mX4_hasDrinker σ (bo_inn (σ 0 9)) p1).bind fun v1 =>
  if v1 = 0 then
   some ((-1000000001), σ)
  else
   if p2 < 0 then
    some ((-1000000002), σ)
   else
    if p2 ≤ 39 then
     (mX6_note σ 50).bind fun σ2 =>
     (mX8_at σ2 7 52 p1).bind fun v3 =>
     (mX8_put σ2 7 52 p1 p2).bind fun σ4 =>
     some (v3, σ4)
    else
     some ((-1000000002), σ)
-- BellRope.hang
def mX10_hang (σ : bo_M) (p1 : Int32) : Option (Int32 × bo_M) :=
  Option.bind (α := Int32) (if p1 < 0 then
   some 1
  else
   if p1 ≤ 96 then
    some 0
   else
    some 1) fun a1 =>
  (mX10_refused σ a1).bind fun v2 =>
  if v2 = 0 then
   (mX6_note σ 50).bind fun σ3 =>
   (some (bo_up σ3 50 7 p1)).bind fun σ4 =>
   some ((σ3 50 7), σ4)
  else
   some (v2, σ)
-- BellRope.rain
def mX10_rain (σ : bo_M) (p1 : Int32) : Option (Int32 × bo_M) :=
  Option.bind (α := Int32) (if p1 < 0 then
   some 1
  else
   if p1 ≤ 2 then
    some 0
   else
    some 1) fun a1 =>
  (mX10_refused σ a1).bind fun v2 =>
  if v2 = 0 then
   (mX6_note σ 50).bind fun σ3 =>
   (some (bo_up σ3 50 9 p1)).bind fun σ4 =>
   some ((σ3 50 9), σ4)
  else
   some (v2, σ)
-- BellRope.draw
def mX10_draw (σ : bo_M) (p1 : Int32) : Option (Int32 × bo_M) :=
  (some (bo_up σ 0 11 ((((σ 0 11) * 1103515245) + 12345) &&& 2147483647))).bind fun σ1 =>
  if p1 ≤ 0 then
   some (0, σ1)
  else
   (bo_iremo ((σ1 0 11) / 65536) p1).bind fun v2 =>
   some (v2, σ1)
-- BellRope.stir
def mX10_stir (σ : bo_M) : Option bo_M :=
  if 0 < (σ (bo_inn (σ 0 9)) 11) then
   (mX10_draw σ (σ (bo_inn (σ 0 9)) 11)).bind fun a1 =>
   (mX10_draw a1.2 6).bind fun a2 =>
   if a2.1 = 0 then
    (some (bo_up a2.2 50 5 ((a2.2 50 5) ||| (1 <<< (a1.1 &&& 31))))).bind fun σ6 =>
    some σ6
   else
    if a2.1 = 1 then
     (some (bo_up a2.2 50 5 ((a2.2 50 5) &&& ((1 <<< (a1.1 &&& 31)) ^^^ (-1))))).bind fun σ5 =>
     some σ5
    else
     if a2.1 = 2 then
      (mX10_draw a2.2 3).bind fun a3 =>
      (some (bo_up a3.2 50 9 a3.1)).bind fun σ4 =>
      some σ4
     else
      some a2.2
  else
   some σ
-- BellRope.drift
def mX10_drift_L28 (f1 : Int32) : Nat → Int32 → Int32 → bo_M → Option (Int32 × bo_M)
  | 0, _, _, _ => none
  | n + 1, w3, w4, σ =>
    if f1 ≤ w4 then
     some (w3, σ)
    else
     (mX10_stir σ).bind fun σ3 =>
     (mX2_pass σ3 50 (bo_inn (σ3 0 9))).bind fun a4 =>
     mX10_drift_L28 f1 n a4.1 (w4 + 1) a4.2
def mX10_drift (σ : bo_M) (p1 : Int32) : Option (Int32 × bo_M) :=
  (mX10_refusedQuarters σ p1).bind fun v1 =>
  if v1 = 0 then
   (mX6_note σ 50).bind fun σ2 =>
   (mX10_drift_L28 p1 bo_fuel 0 0 σ2).bind fun a5 =>
   some (a5.1, a5.2)
  else
   some (v1, σ)
-- BellRope$Past.restore
def mX6_restore (σ : bo_M) (r1 : Nat) : Option (Int32 × bo_M) :=
  (mX6_evening σ ((σ 3 1) - 1)).bind fun qc1 =>
  bo_oc qc1
   (some (0, σ))
   (fun c1 =>
  (some (bo_up σ 3 1 ((σ 3 1) - 1))).bind fun σ2 =>
  (mX2_become σ2 r1 (bo_ev c1)).bind fun σ3 =>
  some (1, σ3))
-- BellRope.undo
def mX10_undo (σ : bo_M) : Option (Int32 × bo_M) :=
  (mX6_restore σ 50).bind fun a1 =>
  if a1.1 = 0 then
   some ((-1000000003), a1.2)
  else
   some ((a1.2 3 1), a1.2)
-- BellRope$Trial.run
def mX9_run_L11 (f1 : Nat) (f3 : Int32) : Nat → Int32 → bo_M → Option (bo_M)
  | 0, _, _ => none
  | n + 1, w4, σ =>
    if f3 ≤ w4 then
     some σ
    else
     if 192 ≤ w4 then
      some σ
     else
      (mX2_pass σ 18 f1).bind fun a2 =>
      (mX8_put a2.2 192 23 w4 a2.1).bind fun σ3 =>
      mX9_run_L11 f1 f3 n (w4 + 1) σ3
def mX9_run (σ : bo_M) (r1 : Nat) (r2 : Nat) (p3 : Int32) : Option bo_M :=
  (mX2_become σ 18 r2).bind fun σ1 =>
  (mX9_run_L11 r1 p3 bo_fuel 0 σ1).bind fun a4 =>
  some a4
-- BellRope.strikes
def mX10_strikes (σ : bo_M) (p1 : Int32) : Option (Int32 × bo_M) :=
  Option.bind (α := Int32) (if p1 < 0 then
   some 1
  else
   if p1 < 192 then
    some 0
   else
    some 1) fun a1 =>
  (mX10_refused σ a1).bind fun v2 =>
  if v2 = 0 then
   (mX9_run σ (bo_inn (σ 0 9)) 50 (p1 + 1)).bind fun σ3 =>
   (mX8_at σ3 192 23 p1).bind fun v4 =>
   some (v4, σ3)
  else
   some (v2, σ)
-- BellRope$Trial.firstHeard
def mX9_firstHeard_L2 (σ : bo_M) (f1 : Int32) (f2 : Int32) : Nat → Int32 → Option (Int32)
  | 0, _ => none
  | n + 1, w3 =>
    if f2 ≤ w3 then
     some (-1)
    else
     if 192 ≤ w3 then
      some (-1)
     else
      (mX8_at σ 192 23 w3).bind fun v1 =>
      if v1 < f1 then
       mX9_firstHeard_L2 σ f1 f2 n (w3 + 1)
      else
       some w3
def mX9_firstHeard (σ : bo_M) (p1 : Int32) (p2 : Int32) : Option Int32 :=
  mX9_firstHeard_L2 σ p1 p2 bo_fuel 0
-- BellRope.when
def mX10_when (σ : bo_M) (p1 : Int32) : Option (Int32 × bo_M) :=
  Option.bind (α := Int32) (if p1 < 1 then
   some 1
  else
   if p1 ≤ 16 then
    some 0
   else
    some 1) fun a1 =>
  (mX10_refused σ a1).bind fun v2 =>
  if v2 = 0 then
   (mX9_run σ (bo_inn (σ 0 9)) 50 192).bind fun σ3 =>
   (mX9_firstHeard σ3 p1 192).bind fun v4 =>
   some (v4, σ3)
  else
   some (v2, σ)
-- BellRope.hour
def mX10_hour (σ : bo_M) (p1 : Int32) : Option (Int32 × bo_M) :=
  Option.bind (α := Int32) (if p1 < 0 then
   some 1
  else
   if p1 ≤ 192 then
    some 0
   else
    some 1) fun a1 =>
  (mX10_refused σ a1).bind fun v2 =>
  if v2 = 0 then
   (mX9_run σ (bo_inn (σ 0 9)) 50 p1).bind fun σ3 =>
   some ((σ3 18 6), σ3)
  else
   some (v2, σ)
-- BellRope.noon
def mX10_noon_L41 (σ : bo_M) : Nat → Int32 → Int32 → Option ((Int32 × bo_M))
  | 0, _, _ => none
  | n + 1, w1, w2 =>
    if 192 ≤ w2 then
     some ((-1), σ)
    else
     (mX8_at σ 192 23 w2).bind fun v2 =>
     Option.bind (α := Int32) (if v2 < 1 then
      some w1
     else
      some (w1 + 1)) fun a3 =>
     if a3 = 12 then
      some ((w2 + 1), σ)
     else
      mX10_noon_L41 σ n a3 (w2 + 1)
def mX10_noon (σ : bo_M) : Option (Int32 × bo_M) :=
  if (σ (bo_inn (σ 0 9)) 7 &&& 1) = 0 then
   some ((-1000000003), σ)
  else
   (mX9_run σ (bo_inn (σ 0 9)) 50 192).bind fun σ1 =>
   mX10_noon_L41 σ1 bo_fuel (σ1 50 6) 0
-- BellRope.lateBy
def mX10_lateBy_L16 (σ : bo_M) (f2 : Int32) : Nat → Int32 → Int32 → Option (Int32)
  | 0, _, _ => none
  | n + 1, w3, w4 =>
    if (σ (bo_inn (σ 0 9)) 13) ≤ w4 then
     some w3
    else
     (mX8_at σ 6 ((bo_inn (σ 0 9)) + 4) w4).bind fun v2 =>
     Option.bind (α := Int32) (if f2 = (-1) then
      some (w3 ||| (1 <<< (w4 &&& 31)))
     else
      (mX8_at σ 6 ((bo_inn (σ 0 9)) + 5) w4).bind fun v4 =>
      if (f2 + v4) ≤ (bo_irm ((v2 + 96) - (bo_irm (σ 50 4) 96)) 96) then
       some w3
      else
       some (w3 ||| (1 <<< (w4 &&& 31)))) fun a3 =>
     mX10_lateBy_L16 σ f2 n a3 (w4 + 1)
def mX10_lateBy (σ : bo_M) (p1 : Int32) : Option Int32 :=
  (mX9_firstHeard σ p1 96).bind fun v1 =>
  (mX10_lateBy_L16 σ v1 bo_fuel 0 0).bind fun a5 =>
  some a5
-- BellRope.late
def mX10_late (σ : bo_M) (p1 : Int32) : Option (Int32 × bo_M) :=
  Option.bind (α := Int32) (if p1 < 1 then
   some 1
  else
   if p1 ≤ 16 then
    some 0
   else
    some 1) fun a1 =>
  (mX10_refused σ a1).bind fun v2 =>
  if v2 = 0 then
   (mX9_run σ (bo_inn (σ 0 9)) 50 96).bind fun σ3 =>
   (mX10_lateBy σ3 p1).bind fun v4 =>
   some (v4, σ3)
  else
   some (v2, σ)
-- BellRope.best
def mX10_best_L51 (σ : bo_M) (f1 : Int32) : Nat → Int32 → Int32 → Int32 → Option (Int32 × Int32)
  | 0, _, _, _ => none
  | n + 1, w3, w4, w5 =>
    if 16 < w5 then
     some (w3, w4)
    else
     (mX10_lateBy σ w5).bind fun v4 =>
     (mJ6_bitCount_0f7a4 σ v4).bind fun v5 =>
     Option.bind (α := Int32 × Int32) (if w4 ≤ v5 then
      some (w3, w4)
     else
      some (w5, v5)) fun a6 =>
     mX10_best_L51 σ f1 n a6.1 a6.2 (w5 + 1)
def mX10_best (σ : bo_M) (p1 : Int32) : Option (Int32 × bo_M) :=
  Option.bind (α := Int32) (if p1 < 0 then
   some 1
  else
   if p1 ≤ 1 then
    some 0
   else
    some 1) fun a1 =>
  (mX10_refused σ a1).bind fun v2 =>
  if v2 = 0 then
   (mX9_run σ (bo_inn (σ 0 9)) 50 96).bind fun σ3 =>
   (mX10_best_L51 σ3 p1 bo_fuel 1 7 1).bind fun a7 =>
   if p1 = 0 then
    some (a7.1, σ3)
   else
    some (a7.2, σ3)
  else
   some (v2, σ)
-- BellRope.alone
def mX10_alone_L35 (σ : bo_M) (f1 : Int32) : Nat → Int32 → Int32 → Option (Int32)
  | 0, _, _ => none
  | n + 1, w2, w3 =>
    if 16 < w3 then
     some w2
    else
     (mX10_lateBy σ w3).bind fun v3 =>
     (mX10_bit σ v3 f1).bind fun v4 =>
     Option.bind (α := Int32) (if v4 = 0 then
      some (w2 ||| (1 <<< (w3 &&& 31)))
     else
      some w2) fun a5 =>
     mX10_alone_L35 σ f1 n a5 (w3 + 1)
def mX10_alone (σ : bo_M) (p1 : Int32) : Option (Int32 × bo_M) :=
  (mX4_hasGoer σ (bo_inn (σ 0 9)) p1).bind fun v1 =>
  if v1 = 0 then
   some ((-1000000001), σ)
  else
   (mX9_run σ (bo_inn (σ 0 9)) 50 96).bind fun σ2 =>
   (mX10_alone_L35 σ2 p1 bo_fuel 0 1).bind fun a6 =>
   some (a6, σ2)
-- BellRope.given
def mX10_given_L49 (σ : bo_M) (f1 : Int32) : Nat → Int32 → Int32 → Option (Int32)
  | 0, _, _ => none
  | n + 1, w3, w4 =>
    if f1 ≤ w4 then
     some w3
    else
     (mX8_at σ 192 23 w4).bind fun v4 =>
     (mX4_signalsOf σ (bo_inn (σ 0 9)) v4).bind fun v5 =>
     mX10_given_L49 σ f1 n (w3 ||| v5) (w4 + 1)
def mX10_given (σ : bo_M) (p1 : Int32) : Option (Int32 × bo_M) :=
  Option.bind (α := Int32) (if p1 < 1 then
   some 1
  else
   if p1 ≤ 192 then
    some 0
   else
    some 1) fun a1 =>
  (mX10_refused σ a1).bind fun v2 =>
  if v2 = 0 then
   (mX9_run σ (bo_inn (σ 0 9)) 50 p1).bind fun σ3 =>
   (mX10_given_L49 σ3 p1 bo_fuel 0 0).bind fun a6 =>
   some (a6, σ3)
  else
   some (v2, σ)
-- BellRope.mistaken
def mX10_mistaken_L4 (σ : bo_M) : Nat → Int32 → Int32 → Option (Int32)
  | 0, _, _ => none
  | n + 1, w1, w2 =>
    (mX2_logs σ 50).bind fun v1 =>
    if v1 ≤ w2 then
     some w1
    else
     (mX2_rungAgo σ 50 w2).bind fun v2 =>
     (mX4_signalsOf σ (bo_inn (σ 0 9)) v2).bind fun v3 =>
     Option.bind (α := Int32) (if v3 = 0 then
      some w1
     else
      (mX2_heardAgo σ 50 w2).bind fun v5 =>
      if v5 = v2 then
       some w1
      else
       some (w1 + 1)) fun a4 =>
     mX10_mistaken_L4 σ n a4 (w2 + 1)
def mX10_mistaken (σ : bo_M) : Option Int32 :=
  (mX10_mistaken_L4 σ bo_fuel 0 0).bind fun a6 =>
  some a6
-- BellRope$Inn.sets
def mX4_sets (σ : bo_M) (o : Nat) : Option Int32 :=
  some (1 <<< ((σ o 11) &&& 31))
-- BellRope.vespers
def mX10_vespers_L91 (σ : bo_M) (f1 : Int32) (f2 : Int32) (f4 : Int32) (f5 : Int32) (f6 : Int32) : Nat → Int32 → Int32 → Int32 → Option (Int32 × Int32)
  | 0, _, _, _ => none
  | n + 1, w7, w8, w9 =>
    (mX4_sets σ (bo_inn (σ 0 9))).bind fun v6 =>
    if v6 ≤ w9 then
     some (w7, w8)
    else
     (mJ6_bitCount_0f7a4 σ (w9 &&& ((σ 50 5) ^^^ (-1)))).bind fun v7 =>
     (mJ6_bitCount_0f7a4 σ (w9 &&& f5)).bind fun v8 =>
     (mJ6_bitCount_0f7a4 σ (f4 &&& (f6 ||| w9))).bind fun v9 =>
     Option.bind (α := Int32 × Int32) (if w7 = (-1) then
      (mX2_heardOf σ 50 (bo_inn (σ 0 9)) v9).bind fun v11 =>
      if v11 < f1 then
       some (w7, w8)
      else
       some ((v7 + v8), w9)
     else
      if w7 ≤ (v7 + v8) then
       some (w7, w8)
      else
       (mX2_heardOf σ 50 (bo_inn (σ 0 9)) v9).bind fun v12 =>
       if v12 < f1 then
        some (w7, w8)
       else
        some ((v7 + v8), w9)) fun a10 =>
     mX10_vespers_L91 σ f1 f2 f4 f5 f6 n a10.1 a10.2 (w9 + 1)
def mX10_vespers (σ : bo_M) (p1 : Int32) (p2 : Int32) : Option Int32 :=
  Option.bind (α := Int32) (if p1 < 1 then
   some 1
  else
   if 16 < p1 then
    some 1
   else
    if p2 < 0 then
     some 1
    else
     if p2 ≤ 1 then
      some 0
     else
      some 1) fun a1 =>
  (mX10_refused σ a1).bind fun v2 =>
  if v2 = 0 then
   (mX2_due σ 50 (bo_inn (σ 0 9)) (σ 50 4)).bind fun v3 =>
   (mX2_full σ 50 (bo_inn (σ 0 9))).bind fun v4 =>
   (mX2_thirsty σ 50 (bo_inn (σ 0 9))).bind fun v5 =>
   (mX10_vespers_L91 σ p1 p2 v3 v4 v5 bo_fuel (-1) (-1) 0).bind fun a13 =>
   if p2 = 0 then
    some a13.1
   else
    some a13.2
  else
   some v2
-- BellRope.ship
def mX10_ship_L50 (σ : bo_M) : Nat → Int32 → Int32 → Option ((Int32 × bo_M))
  | 0, _, _ => none
  | n + 1, w3, w4 =>
    if 192 ≤ w4 then
     some ((-1), σ)
    else
     (mX8_at σ 192 23 w4).bind fun v4 =>
     Option.bind (α := Int32) (if w3 ≤ (v4 * 2) then
      some (w3 + (-1))
     else
      if v4 < 3 then
       some w3
      else
       some (w3 + (-1))) fun a5 =>
     if a5 = 0 then
      some ((w4 + 1), σ)
     else
      mX10_ship_L50 σ n a5 (w4 + 1)
def mX10_ship (σ : bo_M) (p1 : Int32) : Option (Int32 × bo_M) :=
  Option.bind (α := Int32) (if p1 < 1 then
   some 1
  else
   if p1 ≤ 99 then
    some 0
   else
    some 1) fun a1 =>
  (mX10_refused σ a1).bind fun v2 =>
  if v2 = 0 then
   (mX9_run σ (bo_inn (σ 0 9)) 50 192).bind fun σ3 =>
   mX10_ship_L50 σ3 bo_fuel p1 0
  else
   some (v2, σ)
-- BellRope.widows
def mX10_widows_L28 (σ : bo_M) (f1 : Int32) : Nat → Int32 → Int32 → Int32 → Option (Int32)
  | 0, _, _, _ => none
  | n + 1, w2, w3, w4 =>
    if w4 < 0 then
     some w2
    else
     (mX2_heardAgo σ 50 w4).bind fun v2 =>
     Option.bind (α := Int32) (if v2 = w3 then
      some w2
     else
      some (w2 + v2)) fun a3 =>
     mX10_widows_L28 σ f1 n a3 v2 (w4 + (-1))
def mX10_widows (σ : bo_M) (p1 : Int32) : Option Int32 :=
  if p1 < 0 then
   some (-1000000002)
  else
   if p1 ≤ 99 then
    (mX2_logs σ 50).bind fun v1 =>
    (mX10_widows_L28 σ p1 bo_fuel 0 (-1) (v1 - 1)).bind fun a4 =>
    some (a4 * p1)
   else
    some (-1000000002)
-- BellRope$Chances.restart
def mX1_restart (σ : bo_M) : Option bo_M :=
  (mX8_zero σ 8 33).bind fun σ1 =>
  (mX8_put σ1 8 33 0 1000000).bind fun σ2 =>
  some σ2
-- BellRope$Chances.lift
def mX1_lift_L3 (f1 : Int32) : Nat → Int32 → bo_M → Option (bo_M)
  | 0, _, _ => none
  | n + 1, w2, σ =>
    if w2 < 0 then
     some σ
    else
     (mX8_at σ 8 33 w2).bind fun v1 =>
     (mX8_at σ 8 33 w2).bind fun v2 =>
     (mX8_put σ 8 33 w2 (v2 - ((v1 * f1) / 100))).bind fun σ3 =>
     (mX8_at σ3 8 33 (w2 + 1)).bind fun v4 =>
     (mX8_put σ3 8 33 (w2 + 1) (v4 + ((v1 * f1) / 100))).bind fun σ5 =>
     mX1_lift_L3 f1 n (w2 + (-1)) σ5
def mX1_lift (σ : bo_M) (p1 : Int32) : Option bo_M :=
  (mX1_lift_L3 p1 bo_fuel 6 σ).bind fun a6 =>
  some a6
-- BellRope$Chances.above
def mX1_above_L4 (σ : bo_M) : Nat → Int32 → Int32 → Option (Int32)
  | 0, _, _ => none
  | n + 1, w2, w3 =>
    if 7 < w3 then
     some w2
    else
     (mX8_at σ 8 33 w3).bind fun v1 =>
     mX1_above_L4 σ n (w2 + v1) (w3 + 1)
def mX1_above (σ : bo_M) (p1 : Int32) : Option Int32 :=
  (mX1_above_L4 σ bo_fuel 0 p1).bind fun a2 =>
  some a2
-- BellRope.odds
def mX10_odds_L48 (f1 : Int32) (f3 : Int32) : Nat → Int32 → bo_M → Option (bo_M)
  | 0, _, _ => none
  | n + 1, w4, σ =>
    if (σ (bo_inn (σ 0 9)) 11) ≤ w4 then
     some σ
    else
     (mX10_bit σ f3 w4).bind fun v5 =>
     Option.bind (α := bo_M) (if v5 = 1 then
      (mX8_at σ 7 ((bo_inn (σ 0 9)) + 3) w4).bind fun v7 =>
      (mX1_lift σ v7).bind fun σ8 =>
      some σ8
     else
      some σ) fun a6 =>
     mX10_odds_L48 f1 f3 n (w4 + 1) a6
def mX10_odds (σ : bo_M) (p1 : Int32) : Option (Int32 × bo_M) :=
  Option.bind (α := Int32) (if p1 < 0 then
   some 1
  else
   if p1 ≤ 16 then
    some 0
   else
    some 1) fun a1 =>
  (mX10_refused σ a1).bind fun v2 =>
  if v2 = 0 then
   (mX1_restart σ).bind fun σ3 =>
   (mX2_thirsty σ3 50 (bo_inn (σ3 0 9))).bind fun v4 =>
   (mX10_odds_L48 p1 v4 bo_fuel 0 σ3).bind fun a9 =>
   (mX1_above a9 p1).bind fun v10 =>
   some (v10, a9)
  else
   some (v2, σ)
-- BellRope.most
def mX10_most_L6 (σ : bo_M) : Nat → Int32 → Int32 → Int32 → Option (Int32)
  | 0, _, _, _ => none
  | n + 1, w1, w2, w3 =>
    if (σ (bo_inn (σ 0 9)) 11) ≤ w3 then
     some w1
    else
     (mX8_at σ 7 51 w3).bind fun v1 =>
     Option.bind (α := Int32 × Int32) (if v1 ≤ w2 then
      some (w1, w2)
     else
      (mX8_at σ 7 51 w3).bind fun v3 =>
      some (w3, v3)) fun a2 =>
     mX10_most_L6 σ n a2.1 a2.2 (w3 + 1)
def mX10_most (σ : bo_M) : Option Int32 :=
  (mX10_most_L6 σ bo_fuel (-1) 0 0).bind fun a4 =>
  some a4
-- BellRope.leastCommon
def mX10_leastCommon_L16 (σ : bo_M) (f0 : Int32) (f1 : Int32) : Nat → Int32 → Int32 → Option (Int32)
  | 0, _, _ => none
  | n + 1, w2, w3 =>
    if f1 ≤ w3 then
     some w2
    else
     (bo_iremo w2 f1).bind fun v1 =>
     if v1 = 0 then
      some w2
     else
      if 999999 ≤ w2 then
       some w2
      else
       mX10_leastCommon_L16 σ f0 f1 n (w2 + f0) (w3 + 1)
def mX10_leastCommon (σ : bo_M) (p0 : Int32) (p1 : Int32) : Option Int32 :=
  if p0 < 1 then
   some 1
  else
   if 1 ≤ p1 then
    (mX10_leastCommon_L16 σ p0 p1 bo_fuel p0 1).bind fun a2 =>
    some (if 999999 < a2 then 999999 else a2)
   else
    some 1
-- BellRope.round
def mX10_round_L4 (σ : bo_M) : Nat → Int32 → Int32 → Option (Int32)
  | 0, _, _ => none
  | n + 1, w1, w2 =>
    if (σ (bo_inn (σ 0 9)) 11) ≤ w2 then
     some w1
    else
     (mX10_bit σ (σ 50 5) w2).bind fun v1 =>
     Option.bind (α := Int32) (if v1 = 1 then
      (mX8_at σ 7 ((bo_inn (σ 0 9)) + 1) w2).bind fun v3 =>
      (mX10_leastCommon σ w1 v3).bind fun v4 =>
      some v4
     else
      some w1) fun a2 =>
     mX10_round_L4 σ n a2 (w2 + 1)
def mX10_round (σ : bo_M) : Option Int32 :=
  (mX10_round_L4 σ bo_fuel 1 0).bind fun a5 =>
  some a5
-- BellRope$Rows.sum
def mX8_sum_L10 (σ : bo_M) (n0 : Nat) (f0 : Nat) : Nat → Int32 → Int32 → Option (Int32)
  | 0, _, _ => none
  | n + 1, w1, w2 =>
    if (Int32.ofNat n0) ≤ w2 then
     some w1
    else
     (bo_ld n0 σ f0 w2).bind fun v1 =>
     mX8_sum_L10 σ n0 f0 n (w1 + v1) (w2 + 1)
def mX8_sum (σ : bo_M) (n0 r0 : Nat) : Option Int32 :=
  (mX8_sum_L10 σ n0 r0 bo_fuel 0 0).bind fun a2 =>
  some a2
-- BellRope.payersAhead
def mX10_payersAhead_L4 (σ : bo_M) (f1 : Int32) : Nat → Int32 → Int32 → Option (Int32)
  | 0, _, _ => none
  | n + 1, w2, w3 =>
    if (σ (bo_inn (σ 0 9)) 11) ≤ w3 then
     some w2
    else
     (mX8_at σ 7 51 w3).bind fun v1 =>
     (mX8_at σ 7 51 f1).bind fun v2 =>
     (mX10_bit σ (σ 50 5) w3).bind fun v3 =>
     Option.bind (α := Int32) (if v3 = 1 then
      if 0 < (v1 - v2) then
       some (w2 + 1)
      else
       if (v1 - v2) = 0 then
        if f1 ≤ w3 then
         some w2
        else
         some (w2 + 1)
       else
        some w2
     else
      some w2) fun a4 =>
     mX10_payersAhead_L4 σ f1 n a4 (w3 + 1)
def mX10_payersAhead (σ : bo_M) (p1 : Int32) : Option Int32 :=
  (mX10_payersAhead_L4 σ p1 bo_fuel 0 0).bind fun a5 =>
  some a5
-- BellRope.share
def mX10_share (σ : bo_M) (p1 : Int32) : Option Int32 :=
  (mX4_hasDrinker σ (bo_inn (σ 0 9)) p1).bind fun v1 =>
  if v1 = 0 then
   some (-1000000001)
  else
   (mJ6_bitCount_0f7a4 σ (σ 50 5)).bind fun v2 =>
   (mX10_bit σ (σ 50 5) p1).bind fun v3 =>
   if v3 = 0 then
    some 0
   else
    if 0 < v2 then
     (mX8_sum σ 7 51).bind fun v4 =>
     (mX10_payersAhead σ p1).bind fun v5 =>
     (bo_iremo v4 v2).bind fun v6 =>
     Option.bind (α := Int32) (if v6 ≤ v5 then
      some 0
     else
      some 1) fun a7 =>
     (bo_idivo v4 v2).bind fun v8 =>
     some (v8 + a7)
    else
     some 0
-- BellRope$Known.append
def mX5_append (σ : bo_M) (p1 : Int32) (p2 : Int32) : Option (Int32 × bo_M) :=
  if (σ 24 4) < 6 then
   (mX8_put σ 6 25 (σ 24 4) p1).bind fun σ1 =>
   (mX8_put σ1 6 26 (σ1 24 4) p2).bind fun σ2 =>
   (some (bo_up σ2 24 4 ((σ2 24 4) + 1))).bind fun σ3 =>
   some (1, σ3)
  else
   some (0, σ)
-- BellRope.was
def mX10_was (σ : bo_M) (p1 : Int32) (p2 : Int32) : Option (Int32 × bo_M) :=
  Option.bind (α := Int32) (if p1 < 0 then
   some 1
  else
   if 96 ≤ p1 then
    some 1
   else
    if p2 < 0 then
     some 1
    else
     if p2 ≤ 16 then
      some 0
     else
      some 1) fun a1 =>
  (mX10_refused σ a1).bind fun v2 =>
  if v2 = 0 then
   (mX5_append σ p1 p2).bind fun a3 =>
   if a3.1 = 0 then
    some ((-1000000004), a3.2)
   else
    some ((a3.2 24 4), a3.2)
  else
   some (v2, σ)
-- BellRope$Known.heardBy
def mX5_heardBy (σ : bo_M) (r0 : Nat) (p1 : Int32) (p2 : Int32) (p3 : Int32) : Option Int32 :=
  (mJ6_bitCount_0f7a4 σ p1).bind fun v1 =>
  (mX4_sextonAt σ r0 p2).bind fun v2 =>
  Option.bind (α := Int32) (if v2 = 0 then
   some 0
  else
   some p3) fun a3 =>
  (mX4_echoed σ r0 v1 a3).bind fun v4 =>
  some v4
-- BellRope$Known.fits
def mX5_fits_L3 (σ : bo_M) (f1 : Nat) (f2 : Nat) (f3 : Int32) (f4 : Int32) : Nat → Int32 → Option (Int32)
  | 0, _ => none
  | n + 1, w5 =>
    if (σ 24 4) ≤ w5 then
     some 1
    else
     (mX8_at σ 6 25 w5).bind fun v1 =>
     (mX2_due σ f2 f1 v1).bind fun v2 =>
     (mX5_heardBy σ f1 (f3 &&& v2) v1 f4).bind fun v3 =>
     (mX8_at σ 6 26 w5).bind fun v4 =>
     if v3 = v4 then
      mX5_fits_L3 σ f1 f2 f3 f4 n (w5 + 1)
     else
      some 0
def mX5_fits (σ : bo_M) (r1 : Nat) (r2 : Nat) (p3 : Int32) (p4 : Int32) : Option Int32 :=
  mX5_fits_L3 σ r1 r2 p3 p4 bo_fuel 0
-- BellRope$Known.findSets
def mX5_findSets_L7 (f1 : Nat) (f2 : Nat) : Nat → Int32 → bo_M → Option (bo_M)
  | 0, _, _ => none
  | n + 1, w3, σ =>
    (mX4_sets σ f1).bind fun v2 =>
    if v2 ≤ w3 then
     some σ
    else
     (mX5_fits σ f1 f2 w3 (σ f1 9)).bind fun v3 =>
     Option.bind (α := bo_M) (if v3 = 0 then
      some σ
     else
      (mX8_put σ 128 27 (σ 24 5) w3).bind fun σ5 =>
      (some (bo_up σ5 24 5 ((σ5 24 5) + 1))).bind fun σ6 =>
      some σ6) fun a4 =>
     mX5_findSets_L7 f1 f2 n (w3 + 1) a4
def mX5_findSets (σ : bo_M) (r1 : Nat) (r2 : Nat) : Option bo_M :=
  (some (bo_up σ 24 5 0)).bind fun σ1 =>
  (mX5_findSets_L7 r1 r2 bo_fuel 0 σ1).bind fun a7 =>
  some a7
-- BellRope$Known.leastSet
def mX5_leastSet (σ : bo_M) : Option Int32 :=
  if (σ 24 5) ≤ 0 then
   some (-1)
  else
   (mX8_at σ 128 27 0).bind fun v1 =>
   some v1
-- BellRope$Known.sureIn
def mX5_sureIn_L7 (σ : bo_M) : Nat → Int32 → Int32 → Option (Int32)
  | 0, _, _ => none
  | n + 1, w1, w2 =>
    if (σ 24 5) ≤ w2 then
     some w1
    else
     (mX8_at σ 128 27 w2).bind fun v2 =>
     mX5_sureIn_L7 σ n (w1 &&& v2) (w2 + 1)
def mX5_sureIn (σ : bo_M) : Option Int32 :=
  (mX5_leastSet σ).bind fun v1 =>
  (mX5_sureIn_L7 σ bo_fuel v1 0).bind fun a3 =>
  if (σ 24 5) ≤ 0 then
   some 0
  else
   some a3
-- BellRope$Known.sureOut
def mX5_sureOut_L4 (σ : bo_M) (f1 : Nat) : Nat → Int32 → Int32 → Option (Int32)
  | 0, _, _ => none
  | n + 1, w2, w3 =>
    if (σ 24 5) ≤ w3 then
     some w2
    else
     (mX8_at σ 128 27 w3).bind fun v1 =>
     mX5_sureOut_L4 σ f1 n (w2 ||| v1) (w3 + 1)
def mX5_sureOut (σ : bo_M) (r1 : Nat) : Option Int32 :=
  (mX5_sureOut_L4 σ r1 bo_fuel 0 0).bind fun a2 =>
  if (σ 24 5) ≤ 0 then
   some 0
  else
   (mX4_sets σ r1).bind fun v3 =>
   some ((v3 - 1) &&& (a2 ^^^ (-1)))
-- BellRope.could
def mX10_could (σ : bo_M) (p1 : Int32) : Option (Int32 × bo_M) :=
  Option.bind (α := Int32) (if p1 < 0 then
   some 1
  else
   if p1 ≤ 3 then
    some 0
   else
    some 1) fun a1 =>
  (mX10_refused σ a1).bind fun v2 =>
  if v2 = 0 then
   (mX5_findSets σ (bo_inn (σ 0 9)) 50).bind fun σ3 =>
   if p1 = 0 then
    some ((σ3 24 5), σ3)
   else
    if p1 = 1 then
     (mX5_leastSet σ3).bind fun v6 =>
     some (v6, σ3)
    else
     if p1 = 2 then
      (mX5_sureIn σ3).bind fun v8 =>
      some (v8, σ3)
     else
      (mX5_sureOut σ3 (bo_inn (σ3 0 9))).bind fun v9 =>
      some (v9, σ3)
  else
   some (v2, σ)
-- BellRope$Known.greatestAlike
def mX5_greatestAlike_L21 (f1 : Nat) (f3 : Int32) (f4 : Int32) : Nat → Int32 → Int32 → bo_M → Option (Int32 × bo_M)
  | 0, _, _, _ => none
  | n + 1, w5, w6, σ =>
    if (σ 24 5) ≤ w6 then
     some (w5, σ)
    else
     (mX8_at σ 128 27 w6).bind fun v3 =>
     (mX5_heardBy σ f1 (v3 &&& f4) f3 (σ f1 9)).bind fun v4 =>
     (mX8_at σ 17 28 v4).bind fun v5 =>
     (mX8_put σ 17 28 v4 (v5 + 1)).bind fun σ6 =>
     mX5_greatestAlike_L21 f1 f3 f4 n (if w5 < (v5 + 1) then (v5 + 1) else w5) (w6 + 1) σ6
def mX5_greatestAlike (σ : bo_M) (r1 : Nat) (r2 : Nat) (p3 : Int32) : Option (Int32 × bo_M) :=
  (mX2_due σ r2 r1 p3).bind fun v1 =>
  (mX8_zero σ 17 28).bind fun σ2 =>
  (mX5_greatestAlike_L21 r1 p3 v1 bo_fuel 0 0 σ2).bind fun a7 =>
  some (a7.1, a7.2)
-- BellRope.listen
def mX10_listen_L40  : Nat → Int32 → Int32 → Int32 → bo_M → Option (Int32 × bo_M)
  | 0, _, _, _, _ => none
  | n + 1, w1, w2, w3, σ =>
    if 96 ≤ w3 then
     some (w2, σ)
    else
     (mX5_greatestAlike σ (bo_inn (σ 0 9)) 50 w3).bind fun a2 =>
     Option.bind (α := Int32 × Int32) (if w1 ≤ a2.1 then
      some (w1, w2)
     else
      some (a2.1, w3)) fun a3 =>
     mX10_listen_L40 n a3.1 a3.2 (w3 + 1) a2.2
def mX10_listen (σ : bo_M) : Option (Int32 × bo_M) :=
  if (σ (bo_inn (σ 0 9)) 7 &&& 1) = 0 then
   some ((-1000000003), σ)
  else
   (mX5_findSets σ (bo_inn (σ 0 9)) 50).bind fun σ1 =>
   (mX10_listen_L40 bo_fuel (σ1 24 5) (-1) 0 σ1).bind fun a4 =>
   some (a4.1, a4.2)
-- BellRope.muffled
def mX10_muffled_L17 (σ : bo_M) : Nat → Int32 → Int32 → Option (Int32)
  | 0, _, _ => none
  | n + 1, w1, w2 =>
    if 9 < w2 then
     some w1
    else
     (mX5_fits σ (bo_inn (σ 0 9)) 50 (σ 50 5) w2).bind fun v1 =>
     Option.bind (α := Int32) (if v1 = 0 then
      some w1
     else
      some (w1 ||| (1 <<< (w2 &&& 31)))) fun a2 =>
     mX10_muffled_L17 σ n a2 (w2 + 1)
def mX10_muffled (σ : bo_M) : Option Int32 :=
  if (σ (bo_inn (σ 0 9)) 7 &&& 1) = 0 then
   some (-1000000003)
  else
   (mX10_muffled_L17 σ bo_fuel 0 0).bind fun a3 =>
   some a3
-- BellRope$Book.append
def mX0_append (σ : bo_M) (p1 : Int32) (p2 : Int32) : Option (Int32 × bo_M) :=
  if (σ 29 2) < 15 then
   (mX8_put σ 15 30 (σ 29 2) p1).bind fun σ1 =>
   (mX8_put σ1 15 31 (σ1 29 2) p2).bind fun σ2 =>
   (some (bo_up σ2 29 2 ((σ2 29 2) + 1))).bind fun σ3 =>
   some (1, σ3)
  else
   some (0, σ)
-- BellRope.write
def mX10_write (σ : bo_M) (p1 : Int32) (p2 : Int32) : Option (Int32 × bo_M) :=
  (mX4_hasDrinker σ (bo_inn (σ 0 9)) p1).bind fun v1 =>
  if v1 = 0 then
   some ((-1000000001), σ)
  else
   if p2 < 0 then
    some ((-1000000002), σ)
   else
    if p2 ≤ 20 then
     (mX0_append σ p1 p2).bind fun a2 =>
     if a2.1 = 0 then
      some ((-1000000004), a2.2)
     else
      some ((a2.2 29 2), a2.2)
    else
     some ((-1000000002), σ)
-- BellRope.tear
def mX10_tear (σ : bo_M) : Option (Int32 × bo_M) :=
  (some (bo_up σ 24 4 0)).bind fun σ1 =>
  (some (bo_up σ1 29 2 0)).bind fun σ2 =>
  some (((σ 24 4) + (σ 29 2)), σ2)
-- BellRope$Book.firstWrong
def mX0_firstWrong_L2 (σ : bo_M) (f1 : Nat) : Nat → Int32 → Option (Int32)
  | 0, _ => none
  | n + 1, w2 =>
    if (σ 29 2) ≤ w2 then
     some (-1)
    else
     (mX8_at σ 15 30 w2).bind fun v1 =>
     (mX8_at σ 7 (f1 + 1) v1).bind fun v2 =>
     (mX8_at σ 15 31 w2).bind fun v3 =>
     if v2 = v3 then
      mX0_firstWrong_L2 σ f1 n (w2 + 1)
     else
      some w2
def mX0_firstWrong (σ : bo_M) (r1 : Nat) : Option Int32 :=
  mX0_firstWrong_L2 σ r1 bo_fuel 0
-- BellRope.judge
def mX10_judge (σ : bo_M) : Option Int32 :=
  (mX0_firstWrong σ 50).bind fun v1 =>
  some v1
-- BellRope.seed
def mX10_seed (σ : bo_M) (p1 : Int32) : Option (Int32 × bo_M) :=
  if 0 ≤ p1 then
   (some (bo_up σ 0 11 p1)).bind fun σ1 =>
   some ((σ 0 11), σ1)
  else
   some ((-1000000002), σ)
-- BellRope.imageOf
def mX10_imageOf (σ : bo_M) (p1 : Int32) : Option (Option Int32) :=
  if p1 = 0 then
   some (some 0)
  else
   if p1 = 1 then
    some (some 1)
   else
    some none
-- BellRope.keep
def mX10_keep (σ : bo_M) (p1 : Int32) : Option (Int32 × bo_M) :=
  (mX10_imageOf σ p1).bind fun qc1 =>
  bo_oc qc1
   (some ((-1000000001), σ))
   (fun c1 =>
  (mX2_become σ ((bo_im c1) + 1) 50).bind fun σ2 =>
  (some (bo_up σ2 (bo_im c1) 1 (σ2 0 11))).bind fun σ3 =>
  (some (bo_up σ3 (bo_im c1) 2 1)).bind fun σ4 =>
  (some (bo_up σ4 3 1 0)).bind fun σ5 =>
  some (1, σ5))
-- BellRope.goBack
def mX10_goBack (σ : bo_M) (p1 : Int32) : Option (Int32 × bo_M) :=
  (mX10_imageOf σ p1).bind fun qc1 =>
  bo_oc qc1
   (some ((-1000000001), σ))
   (fun c1 =>
  if (σ (bo_im c1) 2 &&& 1) = 0 then
   some ((-1000000003), σ)
  else
   (mX2_become σ 50 ((bo_im c1) + 1)).bind fun σ2 =>
   (some (bo_up σ2 0 11 (σ2 (bo_im c1) 1))).bind fun σ3 =>
   (some (bo_up σ3 3 1 0)).bind fun σ4 =>
   some (1, σ4))
-- BellRopeModel.in
def mX11_in (σ : bo_M) (q0 : Int64) (q2 : Int64) (q4 : Int64) : Option Int32 :=
  if (lg_cmp q0 q2) < 0 then
   some 0
  else
   if 0 < (lg_cmp q0 q4) then
    some 0
   else
    some 1
-- BellRopeModel.has
def mX11_has (σ : bo_M) (p0 : Int32) (p1 : Int32) : Option Int32 :=
  if ((p0 >>> (p1 &&& 31)) &&& 1) = 1 then
   some 1
  else
   some 0
-- BellRopeModel.bits
def mX11_bits_L4 (σ : bo_M) (f0 : Int32) : Nat → Int32 → Int32 → Option (Int32)
  | 0, _, _ => none
  | n + 1, w1, w2 =>
    if 7 ≤ w2 then
     some w1
    else
     mX11_bits_L4 σ f0 n (w1 + ((f0 >>> (w2 &&& 31)) &&& 1)) (w2 + 1)
def mX11_bits (σ : bo_M) (p0 : Int32) : Option Int32 :=
  (mX11_bits_L4 σ p0 bo_fuel 0 0).bind fun a1 =>
  some a1
-- BellRopeModel.isDrinker
def mX11_isDrinker (σ : bo_M) (p1 : Int32) : Option Int32 :=
  (mX11_in σ (Int32.toInt64 p1) 0 (Int32.toInt64 ((σ 135 4) - 1))).bind fun v1 =>
  some v1
-- BellRopeModel.isGoer
def mX11_isGoer (σ : bo_M) (p1 : Int32) : Option Int32 :=
  (mX11_in σ (Int32.toInt64 p1) 0 (Int32.toInt64 ((σ 135 11) - 1))).bind fun v1 =>
  some v1
-- BellRopeModel.feed
def mX11_feed (σ : bo_M) (p1 : Int32) : Option (Int32 × bo_M) :=
  (mX11_in σ (Int32.toInt64 p1) 0 255).bind fun v1 =>
  if v1 = 0 then
   some ((-1000000002), σ)
  else
   if (σ 135 19) = 240 then
    some ((-1000000004), σ)
   else
    (bo_st 240 σ 145 (σ 135 19) p1).bind fun σ2 =>
    (some (bo_up σ2 135 19 ((σ2 135 19) + 1))).bind fun σ3 =>
    some ((σ3 135 19), σ3)
-- BellRopeModel.here
def mX11_here_L0  : Nat → bo_M → Option (bo_M)
  | 0, _ => none
  | n + 1, σ =>
    if (σ 135 19) ≤ (σ 135 21) then
     some σ
    else
     (bo_ld 240 σ 145 (σ 135 21)).bind fun v1 =>
     if v1 = 32 then
      (some (bo_up σ 135 21 ((σ 135 21) + 1))).bind fun σ2 =>
      mX11_here_L0 n σ2
     else
      some σ
def mX11_here (σ : bo_M) : Option (Int32 × bo_M) :=
  (mX11_here_L0 bo_fuel σ).bind fun a3 =>
  if (a3 135 19) ≤ (a3 135 21) then
   some ((-1), a3)
  else
   (bo_ld 240 a3 145 (a3 135 21)).bind fun v4 =>
   some (v4, a3)
-- BellRopeModel.fails
def mX11_fails (σ : bo_M) (p1 : Int32) (p2 : Int32) : Option (Int32 × bo_M) :=
  (some (bo_up σ 135 20 p2)).bind fun σ1 =>
  some (p1, σ1)
-- BellRopeModel.takeNumber
def mX11_takeNumber_L42 (f1 : Int32) (f2 : Int32) : Nat → bo_M → Option (bo_M)
  | 0, _ => none
  | n + 1, σ =>
    if (σ 135 19) ≤ (σ 135 21) then
     some σ
    else
     (bo_ld 240 σ 145 (σ 135 21)).bind fun v5 =>
     (mX11_in σ (Int32.toInt64 v5) 48 57).bind fun v6 =>
     if v6 = 0 then
      some σ
     else
      Option.bind (α := Int32) (if (σ 135 22) ≤ 10000 then
       (bo_ld 240 σ 145 (σ 135 21)).bind fun v8 =>
       some (((10 * (σ 135 22)) + v8) - 48)
      else
       some (σ 135 22)) fun a7 =>
      (some (bo_up σ 135 22 a7)).bind fun σ9 =>
      (some (bo_up σ9 135 21 ((σ9 135 21) + 1))).bind fun σ10 =>
      mX11_takeNumber_L42 f1 f2 n σ10
def mX11_takeNumber (σ : bo_M) (p1 : Int32) (p2 : Int32) : Option (Int32 × bo_M) :=
  (mX11_here σ).bind fun a1 =>
  (mX11_in a1.2 (Int32.toInt64 a1.1) 48 57).bind fun v2 =>
  if v2 = 0 then
   (mX11_fails a1.2 1 (a1.2 135 21)).bind fun a15 =>
   some (a15.1, a15.2)
  else
   (some (bo_up a1.2 135 23 (a1.2 135 21))).bind fun σ3 =>
   (some (bo_up σ3 135 22 0)).bind fun σ4 =>
   (mX11_takeNumber_L42 p1 p2 bo_fuel σ4).bind fun a11 =>
   if 3 < ((a11 135 21) - (a11 135 23)) then
    (mX11_fails a11 2 (a11 135 23)).bind fun a12 =>
    some (a12.1, a12.2)
   else
    (mX11_in a11 (Int32.toInt64 (a11 135 22)) (Int32.toInt64 p1) (Int32.toInt64 p2)).bind fun v13 =>
    if v13 = 0 then
     (mX11_fails a11 2 (a11 135 23)).bind fun a14 =>
     some (a14.1, a14.2)
    else
     some (0, a11)
-- BellRopeModel.into
def mX11_into (σ : bo_M) (n1 r1 : Nat) (p2 : Int32) (p3 : Int32) (p4 : Int32) : Option (Int32 × bo_M) :=
  (mX11_takeNumber σ p3 p4).bind fun a1 =>
  (bo_st n1 a1.2 r1 p2 (a1.2 135 22)).bind fun σ2 =>
  some (a1.1, σ2)
-- BellRopeModel.takeLaw
def mX11_takeLaw (σ : bo_M) : Option (Int32 × bo_M) :=
  (some (bo_up σ 135 24 1)).bind fun σ1 =>
  (mX11_into σ1 3 146 0 0 1).bind fun a2 =>
  Option.bind (α := Int32 × bo_M) (if a2.1 ≤ 0 then
   (mX11_into a2.2 3 146 1 0 9).bind fun a4 =>
   some (a4.1, a4.2)
  else
   some (a2.1, a2.2)) fun a3 =>
  if a3.1 ≤ 0 then
   (mX11_into a3.2 3 146 2 0 127).bind fun a5 =>
   some (a5.1, a5.2)
  else
   some (a3.1, a3.2)
-- BellRopeModel.takeDrinker
def mX11_takeDrinker (σ : bo_M) : Option (Int32 × bo_M) :=
  (some (bo_up σ 135 26 ((σ 135 26) + 1))).bind fun σ1 =>
  (mX11_into σ1 7 147 (σ 135 26) 1 40).bind fun a2 =>
  Option.bind (α := Int32 × bo_M) (if a2.1 ≤ 0 then
   (mX11_into a2.2 7 148 (σ 135 26) 1 20).bind fun a4 =>
   some (a4.1, a4.2)
  else
   some (a2.1, a2.2)) fun a3 =>
  if a3.1 ≤ 0 then
   (mX11_into a3.2 7 149 (σ 135 26) 0 100).bind fun a5 =>
   some (a5.1, a5.2)
  else
   some (a3.1, a3.2)
-- BellRopeModel.takeTime
def mX11_takeTime (σ : bo_M) : Option (Int32 × bo_M) :=
  (some (bo_up σ 135 30 ((σ 135 30) + 1))).bind fun σ1 =>
  (mX11_into σ1 4 150 (σ 135 30) 0 95).bind fun a2 =>
  (bo_ld 4 a2.2 150 (σ 135 30)).bind fun v3 =>
  Option.bind (α := Int32) (if 24 ≤ (96 - v3) then
   some 24
  else
   (bo_ld 4 a2.2 150 (σ 135 30)).bind fun v5 =>
   some (96 - v5)) fun a4 =>
  if a2.1 ≤ 0 then
   (mX11_into a2.2 4 151 (σ 135 30) 1 a4).bind fun a6 =>
   some (a6.1, a6.2)
  else
   some (a2.1, a2.2)
-- BellRopeModel.takeGoer
def mX11_takeGoer (σ : bo_M) : Option (Int32 × bo_M) :=
  (some (bo_up σ 135 33 ((σ 135 33) + 1))).bind fun σ1 =>
  (mX11_into σ1 6 152 (σ 135 33) 0 95).bind fun a2 =>
  if a2.1 ≤ 0 then
   (mX11_into a2.2 6 153 (σ 135 33) 0 40).bind fun a3 =>
   some (a3.1, a3.2)
  else
   some (a2.1, a2.2)
-- BellRopeModel.takeSignal
def mX11_takeSignal_L30 (f1 : Int32) (f2 : Int32) : Nat → Int32 → bo_M → Option ((Int32 × bo_M))
  | 0, _, _ => none
  | n + 1, w3, σ =>
    if f1 ≤ w3 then
     some (f2, σ)
    else
     if f2 = 0 then
      (bo_ld 5 σ 154 w3).bind fun v3 =>
      (bo_ld 5 σ 154 f1).bind fun v4 =>
      if v3 = v4 then
       (mX11_fails σ 4 (σ 135 23)).bind fun a5 =>
       some (a5.1, a5.2)
      else
       mX11_takeSignal_L30 f1 f2 n (w3 + 1) σ
     else
      some (f2, σ)
def mX11_takeSignal (σ : bo_M) : Option (Int32 × bo_M) :=
  (some (bo_up σ 135 36 ((σ 135 36) + 1))).bind fun σ1 =>
  (mX11_into σ1 5 154 (σ 135 36) 1 16).bind fun a2 =>
  mX11_takeSignal_L30 (σ 135 36) a2.1 bo_fuel 0 a2.2
-- BellRopeModel.whichClause
def mX11_whichClause (σ : bo_M) (p1 : Int32) : Option Int32 :=
  if p1 = 98 then
   some 0
  else
   if p1 = 100 then
    some 1
   else
    if p1 = 115 then
     some 2
    else
     if p1 = 103 then
      some 3
     else
      if p1 = 110 then
       some 4
      else
       some (-1)
-- BellRopeModel.isFull
def mX11_isFull (σ : bo_M) (p1 : Int32) : Option Int32 :=
  if p1 = 0 then
   some (σ 135 24 &&& 1)
  else
   if p1 = 1 then
    if (σ 135 26) = 7 then
     some 1
    else
     some 0
   else
    if p1 = 2 then
     if (σ 135 30) = 4 then
      some 1
     else
      some 0
    else
     if p1 = 3 then
      if (σ 135 33) = 6 then
       some 1
      else
       some 0
     else
      if (σ 135 36) = 5 then
       some 1
      else
       some 0
-- BellRopeModel.takeBody
def mX11_takeBody (σ : bo_M) (p1 : Int32) : Option (Int32 × bo_M) :=
  if p1 = 0 then
   (mX11_takeLaw σ).bind fun a2 =>
   some (a2.1, a2.2)
  else
   if p1 = 1 then
    (mX11_takeDrinker σ).bind fun a4 =>
    some (a4.1, a4.2)
   else
    if p1 = 2 then
     (mX11_takeTime σ).bind fun a6 =>
     some (a6.1, a6.2)
    else
     if p1 = 3 then
      (mX11_takeGoer σ).bind fun a8 =>
      some (a8.1, a8.2)
     else
      (mX11_takeSignal σ).bind fun a9 =>
      some (a9.1, a9.2)
-- BellRopeModel.takeClause
def mX11_takeClause (σ : bo_M) : Option (Int32 × bo_M) :=
  (mX11_here σ).bind fun a1 =>
  (mX11_whichClause a1.2 a1.1).bind fun v2 =>
  if v2 < 0 then
   (mX11_fails a1.2 1 (a1.2 135 21)).bind fun a3 =>
   some (a3.1, a3.2)
  else
   if v2 ≤ 0 then
    (mX11_isFull a1.2 v2).bind fun v4 =>
    if v4 = 0 then
     (some (bo_up a1.2 135 21 ((a1.2 135 21) + 1))).bind fun σ5 =>
     (mX11_takeBody σ5 v2).bind fun a6 =>
     if a6.1 = 0 then
      (mX11_here a6.2).bind fun a8 =>
      if a8.1 = 59 then
       (some (bo_up a8.2 135 21 ((a8.2 135 21) + 1))).bind fun σ9 =>
       some (a6.1, σ9)
      else
       (mX11_fails a8.2 1 (a8.2 135 21)).bind fun a10 =>
       some (a10.1, a10.2)
     else
      (some (bo_up a6.2 135 21 ((a6.2 135 21) + 1))).bind fun σ7 =>
      some (a6.1, σ7)
    else
     (mX11_fails a1.2 3 (a1.2 135 21)).bind fun a11 =>
     some (a11.1, a11.2)
   else
    if (a1.2 135 24 &&& 1) = 0 then
     (mX11_fails a1.2 1 (a1.2 135 21)).bind fun a20 =>
     some (a20.1, a20.2)
    else
     (mX11_isFull a1.2 v2).bind fun v12 =>
     if v12 = 0 then
      (some (bo_up a1.2 135 21 ((a1.2 135 21) + 1))).bind fun σ13 =>
      (mX11_takeBody σ13 v2).bind fun a14 =>
      if a14.1 = 0 then
       (mX11_here a14.2).bind fun a16 =>
       if a16.1 = 59 then
        (some (bo_up a16.2 135 21 ((a16.2 135 21) + 1))).bind fun σ17 =>
        some (a14.1, σ17)
       else
        (mX11_fails a16.2 1 (a16.2 135 21)).bind fun a18 =>
        some (a18.1, a18.2)
      else
       (some (bo_up a14.2 135 21 ((a14.2 135 21) + 1))).bind fun σ15 =>
       some (a14.1, σ15)
     else
      (mX11_fails a1.2 3 (a1.2 135 21)).bind fun a19 =>
      some (a19.1, a19.2)
-- BellRopeModel.copyRow
def mX11_copyRow_L2 (n0 : Nat) (f0 : Nat) (n1 : Nat) (f1 : Nat) (f2 : Int32) : Nat → Int32 → bo_M → Option (bo_M)
  | 0, _, _ => none
  | n + 1, w3, σ =>
    if f2 ≤ w3 then
     some σ
    else
     (bo_ld n0 σ f0 w3).bind fun v1 =>
     (bo_st n1 σ f1 w3 v1).bind fun σ2 =>
     mX11_copyRow_L2 n0 f0 n1 f1 f2 n (w3 + 1) σ2
def mX11_copyRow (σ : bo_M) (n0 r0 : Nat) (n1 r1 : Nat) (p2 : Int32) : Option bo_M :=
  (mX11_copyRow_L2 n0 r0 n1 r1 p2 bo_fuel 0 σ).bind fun a3 =>
  some a3
-- BellRopeModel.takeRead
def mX11_takeRead_L225  : Nat → Int32 → bo_M → Option (bo_M)
  | 0, _, _ => none
  | n + 1, w1, σ =>
    if 107 ≤ w1 then
     some σ
    else
     (bo_st 107 σ 144 w1 0).bind fun σ23 =>
     mX11_takeRead_L225 n (w1 + 1) σ23
def mX11_takeRead (σ : bo_M) : Option bo_M :=
  (some (bo_up σ 135 0 (σ 135 24 &&& 1))).bind fun σ1 =>
  Option.bind (α := Int32) (if (σ1 135 24 &&& 1) = 0 then
   some 0
  else
   (bo_ld 3 σ1 146 0).bind fun v3 =>
   some v3) fun a2 =>
  (some (bo_up σ1 135 1 a2)).bind fun σ4 =>
  Option.bind (α := Int32) (if (σ4 135 24 &&& 1) = 0 then
   some 0
  else
   (bo_ld 3 σ4 146 1).bind fun v6 =>
   some v6) fun a5 =>
  (some (bo_up σ4 135 2 a5)).bind fun σ7 =>
  Option.bind (α := Int32) (if (σ7 135 24 &&& 1) = 0 then
   some 0
  else
   (bo_ld 3 σ7 146 2).bind fun v9 =>
   some v9) fun a8 =>
  (some (bo_up σ7 135 3 a8)).bind fun σ10 =>
  (some (bo_up σ10 135 4 (σ10 135 26))).bind fun σ11 =>
  (some (bo_up σ11 135 8 (σ11 135 30))).bind fun σ12 =>
  (some (bo_up σ12 135 11 (σ12 135 33))).bind fun σ13 =>
  (some (bo_up σ13 135 14 (σ13 135 36))).bind fun σ14 =>
  (mX11_copyRow σ14 7 147 7 136 (σ14 135 4)).bind fun σ15 =>
  (mX11_copyRow σ15 7 148 7 137 (σ15 135 4)).bind fun σ16 =>
  (mX11_copyRow σ16 7 149 7 138 (σ16 135 4)).bind fun σ17 =>
  (mX11_copyRow σ17 4 150 4 139 (σ17 135 8)).bind fun σ18 =>
  (mX11_copyRow σ18 4 151 4 140 (σ18 135 8)).bind fun σ19 =>
  (mX11_copyRow σ19 6 152 6 141 (σ19 135 11)).bind fun σ20 =>
  (mX11_copyRow σ20 6 153 6 142 (σ20 135 11)).bind fun σ21 =>
  (mX11_copyRow σ21 5 154 5 143 (σ21 135 14)).bind fun σ22 =>
  (mX11_takeRead_L225 bo_fuel 0 σ22).bind fun a24 =>
  some a24
-- BellRopeModel.inn
def mX11_inn_L37  : Nat → Int32 → bo_M → Option (Int32 × bo_M)
  | 0, _, _ => none
  | n + 1, w1, σ =>
    if w1 = 0 then
     (mX11_here σ).bind fun a8 =>
     if a8.1 < 0 then
      some (w1, a8.2)
     else
      (mX11_takeClause a8.2).bind fun a9 =>
      mX11_inn_L37 n a9.1 a9.2
    else
     some (w1, σ)
def mX11_inn (σ : bo_M) : Option (Int32 × bo_M) :=
  (some (bo_up σ 135 20 (-1))).bind fun σ1 =>
  (some (bo_up σ1 135 21 0)).bind fun σ2 =>
  (some (bo_up σ2 135 24 0)).bind fun σ3 =>
  (some (bo_up σ3 135 26 0)).bind fun σ4 =>
  (some (bo_up σ4 135 30 0)).bind fun σ5 =>
  (some (bo_up σ5 135 33 0)).bind fun σ6 =>
  (some (bo_up σ6 135 36 0)).bind fun σ7 =>
  (mX11_inn_L37 bo_fuel 0 σ7).bind fun a10 =>
  (some (bo_up a10.2 135 19 0)).bind fun σ11 =>
  if a10.1 ≤ 0 then
   (mX11_takeRead σ11).bind fun σ12 =>
   (some (bo_up σ12 135 44 0)).bind fun σ13 =>
   (some (bo_up σ13 135 49 0)).bind fun σ14 =>
   (some (bo_up σ14 135 38 0)).bind fun σ15 =>
   (bo_st 2 σ15 167 0 (0 &&& 1)).bind fun σ16 =>
   (bo_st 2 σ16 167 1 (0 &&& 1)).bind fun σ17 =>
   some ((σ17 135 4), σ17)
  else
   some (((-10) - a10.1), σ11)
-- BellRopeModel.fault
def mX11_fault (σ : bo_M) : Option Int32 :=
  some (σ 135 20)
-- BellRopeModel.whoIsIn
def mX11_whoIsIn_L4 (σ : bo_M) : Nat → Int32 → Int32 → Option (Int32)
  | 0, _, _ => none
  | n + 1, w1, w2 =>
    if (σ 135 4) ≤ w2 then
     some w1
    else
     (bo_ld 107 σ 144 (0 + w2)).bind fun v1 =>
     Option.bind (α := Int32) (if v1 = 1 then
      some (1 <<< (w2 &&& 31))
     else
      some 0) fun a2 =>
     mX11_whoIsIn_L4 σ n (w1 ||| a2) (w2 + 1)
def mX11_whoIsIn (σ : bo_M) : Option Int32 :=
  (mX11_whoIsIn_L4 σ bo_fuel 0 0).bind fun a3 =>
  some a3
-- BellRopeModel.isWet
def mX11_isWet (σ : bo_M) : Option Int32 :=
  (bo_ld 107 σ 144 25).bind fun v1 =>
  if v1 ≤ 0 then
   (bo_ld 107 σ 144 21).bind fun v2 =>
   (mX11_has σ (σ 135 3) (bo_irm (v2 / 96) 7)).bind fun v3 =>
   some v3
  else
   (bo_ld 107 σ 144 25).bind fun v4 =>
   if v4 = 1 then
    some 1
   else
    some 0
-- BellRopeModel.isFirstOfDay
def mX11_isFirstOfDay (σ : bo_M) : Option Int32 :=
  (bo_ld 107 σ 144 21).bind fun v1 =>
  if (bo_irm v1 96) = 0 then
   some 1
  else
   some 0
-- BellRopeModel.isBlanketed
def mX11_isBlanketed_L4 (σ : bo_M) (f1 : Int32) : Nat → Int32 → Int32 → Option (Int32)
  | 0, _, _ => none
  | n + 1, w2, w3 =>
    if (σ 135 8) ≤ w3 then
     some w2
    else
     Option.bind (α := Int32) (if w2 = 0 then
      (bo_ld 4 σ 139 w3).bind fun v2 =>
      (bo_ld 4 σ 139 w3).bind fun v3 =>
      (bo_ld 4 σ 140 w3).bind fun v4 =>
      (mX11_in σ (Int32.toInt64 f1) (Int32.toInt64 v2) (Int32.toInt64 ((v3 + v4) - 1))).bind fun v5 =>
      if v5 = 0 then
       some 0
      else
       some 1
     else
      some 1) fun a1 =>
     mX11_isBlanketed_L4 σ f1 n a1 (w3 + 1)
def mX11_isBlanketed (σ : bo_M) (p1 : Int32) : Option Int32 :=
  (mX11_isBlanketed_L4 σ p1 bo_fuel 0 0).bind fun a6 =>
  bo_zr a6
-- BellRopeModel.isTurn
def mX11_isTurn (σ : bo_M) (p1 : Int32) (p2 : Int32) : Option Int32 :=
  (bo_ld 107 σ 144 (14 + p1)).bind fun v1 =>
  (bo_ld 7 σ 136 p1).bind fun v2 =>
  (bo_iremo (p2 + v1) v2).bind fun v3 =>
  if v3 = 0 then
   some 1
  else
   some 0
-- BellRopeModel.wouldRing
def mX11_wouldRing (σ : bo_M) (p1 : Int32) : Option Int32 :=
  (mX11_isFirstOfDay σ).bind fun v1 =>
  Option.bind (α := Int32) (if v1 = 0 then
   (bo_ld 107 σ 144 (7 + p1)).bind fun v3 =>
   some v3
  else
   some 0) fun a2 =>
  (bo_ld 107 σ 144 (0 + p1)).bind fun v4 =>
  if v4 = 1 then
   (bo_ld 7 σ 137 p1).bind fun v5 =>
   if v5 ≤ a2 then
    some 0
   else
    (bo_ld 107 σ 144 21).bind fun v6 =>
    (mX11_isTurn σ p1 v6).bind fun v7 =>
    if v7 = 0 then
     some 0
    else
     some 1
  else
   some 0
-- BellRopeModel.muffle
def mX11_muffle (σ : bo_M) (p1 : Int32) (p2 : Int32) : Option Int32 :=
  Option.bind (α := Int32) (if p1 ≤ p2 then
   some 0
  else
   some (p1 - p2)) fun a1 =>
  if a1 ≤ 0 then
   some 0
  else
   some (a1 + (σ 135 1))
-- BellRopeModel.heardOf
def mX11_heardOf (σ : bo_M) (p1 : Int32) : Option Int32 :=
  (mX11_isWet σ).bind fun v1 =>
  Option.bind (α := Int32) (if v1 = 0 then
   some p1
  else
   some (p1 / 2)) fun a2 =>
  (bo_ld 107 σ 144 23).bind fun v3 =>
  Option.bind (α := Int32) (if 0 < v3 then
   some 1
  else
   (bo_ld 107 σ 144 21).bind fun v5 =>
   (mX11_isBlanketed σ (bo_irm v5 96)).bind fun v6 =>
   if v6 = 0 then
    some 0
   else
    some 1) fun a4 =>
  Option.bind (α := Int32) (if a4 = 0 then
   some 0
  else
   some (σ 135 2)) fun a7 =>
  (mX11_muffle σ a2 a7).bind fun v8 =>
  some v8
-- BellRopeModel.told
def mX11_told (σ : bo_M) (p1 : Int32) : Option Int32 :=
  if p1 = 0 then
   some (σ 135 1)
  else
   if p1 = 1 then
    some (σ 135 2)
   else
    if p1 = 2 then
     some (σ 135 4)
    else
     if p1 = 3 then
      some (σ 135 11)
     else
      if p1 = 4 then
       some (σ 135 14)
      else
       if p1 = 5 then
        some (σ 135 19)
       else
        if p1 = 6 then
         (bo_ld 107 σ 144 21).bind fun v8 =>
         some v8
        else
         if p1 = 7 then
          (mX11_whoIsIn σ).bind fun v10 =>
          some v10
         else
          if p1 = 8 then
           (bo_ld 107 σ 144 22).bind fun v12 =>
           some v12
          else
           if p1 = 9 then
            (mX11_isWet σ).bind fun v14 =>
            if v14 = 0 then
             some 0
            else
             some 1
           else
            if p1 = 10 then
             (bo_ld 107 σ 144 23).bind fun v16 =>
             some v16
            else
             if p1 = 11 then
              (bo_ld 107 σ 144 24).bind fun v18 =>
              some v18
             else
              if p1 = 12 then
               (bo_ld 107 σ 144 26).bind fun v20 =>
               some v20
              else
               if p1 = 13 then
                (bo_ld 107 σ 144 25).bind fun v22 =>
                some v22
               else
                if p1 = 14 then
                 some (σ 135 44)
                else
                 if p1 = 15 then
                  some (σ 135 49)
                 else
                  if p1 = 16 then
                   some (σ 135 38)
                  else
                   some (-1000000002)
-- BellRopeModel.drinker
def mX11_drinker (σ : bo_M) (p1 : Int32) (p2 : Int32) : Option Int32 :=
  (mX11_isDrinker σ p1).bind fun v1 =>
  if v1 = 0 then
   some (-1000000001)
  else
   if p2 = 0 then
    (bo_ld 7 σ 136 p1).bind fun v3 =>
    some v3
   else
    if p2 = 1 then
     (bo_ld 7 σ 137 p1).bind fun v5 =>
     some v5
    else
     if p2 = 2 then
      (bo_ld 7 σ 138 p1).bind fun v7 =>
      some v7
     else
      if p2 = 3 then
       (bo_ld 107 σ 144 (0 + p1)).bind fun v9 =>
       some v9
      else
       if p2 = 4 then
        (bo_ld 107 σ 144 (7 + p1)).bind fun v11 =>
        some v11
       else
        if p2 = 5 then
         (bo_ld 107 σ 144 (14 + p1)).bind fun v13 =>
         some v13
        else
         if p2 = 6 then
          (mX11_wouldRing σ p1).bind fun v15 =>
          if v15 = 0 then
           some 0
          else
           some 1
         else
          some (-1000000002)
-- BellRopeModel.goer
def mX11_goer (σ : bo_M) (p1 : Int32) (p2 : Int32) : Option Int32 :=
  (mX11_isGoer σ p1).bind fun v1 =>
  if v1 = 0 then
   some (-1000000001)
  else
   if p2 = 0 then
    (bo_ld 6 σ 141 p1).bind fun v3 =>
    some v3
   else
    if p2 = 1 then
     (bo_ld 6 σ 142 p1).bind fun v2 =>
     some v2
    else
     some (-1000000002)
-- BellRopeModel.signal
def mX11_signal (σ : bo_M) (p1 : Int32) : Option Int32 :=
  (mX11_in σ (Int32.toInt64 p1) 0 (Int32.toInt64 ((σ 135 14) - 1))).bind fun v1 =>
  if v1 = 0 then
   some (-1000000001)
  else
   (bo_ld 5 σ 143 p1).bind fun v2 =>
   some v2
-- BellRopeModel.logged
def mX11_logged (σ : bo_M) (p1 : Int32) (p2 : Int32) : Option Int32 :=
  (mX11_in σ (Int32.toInt64 p2) 0 1).bind fun v1 =>
  if v1 = 0 then
   some (-1000000002)
  else
   (bo_ld 107 σ 144 26).bind fun v2 =>
   (mX11_in σ (Int32.toInt64 p1) 0 (Int32.toInt64 (v2 - 1))).bind fun v3 =>
   if v3 = 0 then
    some (-1)
   else
    (bo_ld 107 σ 144 26).bind fun v4 =>
    if p2 = 0 then
     (bo_ld 107 σ 144 (27 + ((v4 - 1) - p1))).bind fun v6 =>
     some v6
    else
     (bo_ld 107 σ 144 (67 + ((v4 - 1) - p1))).bind fun v5 =>
     some v5
-- BellRopeModel.log
def mX11_log_L14 (f1 : Int32) (f2 : Int32) : Nat → Int32 → bo_M → Option (bo_M)
  | 0, _, _ => none
  | n + 1, w3, σ =>
    if 40 ≤ w3 then
     some σ
    else
     (bo_ld 107 σ 144 (27 + w3)).bind fun v3 =>
     (bo_st 107 σ 144 ((27 + w3) - 1) v3).bind fun σ4 =>
     (bo_ld 107 σ4 144 (67 + w3)).bind fun v5 =>
     (bo_st 107 σ4 144 ((67 + w3) - 1) v5).bind fun σ6 =>
     mX11_log_L14 f1 f2 n (w3 + 1) σ6
def mX11_log (σ : bo_M) (p1 : Int32) (p2 : Int32) : Option bo_M :=
  (bo_ld 107 σ 144 26).bind fun v1 =>
  Option.bind (α := bo_M) (if v1 = 40 then
   (mX11_log_L14 p1 p2 bo_fuel 1 σ).bind fun a7 =>
   (bo_ld 107 a7 144 26).bind fun v8 =>
   (bo_st 107 a7 144 26 (v8 - 1)).bind fun σ9 =>
   some σ9
  else
   some σ) fun a2 =>
  (bo_ld 107 a2 144 26).bind fun v10 =>
  (bo_st 107 a2 144 (27 + v10) p1).bind fun σ11 =>
  (bo_ld 107 σ11 144 26).bind fun v12 =>
  (bo_st 107 σ11 144 (67 + v12) p2).bind fun σ13 =>
  (bo_ld 107 σ13 144 26).bind fun v14 =>
  (bo_st 107 σ13 144 26 (v14 + 1)).bind fun σ15 =>
  some σ15
-- BellRopeModel.pass
def mX11_pass_L9 (f2 : Int32) : Nat → Int32 → Int32 → bo_M → Option (Int32 × bo_M)
  | 0, _, _, _ => none
  | n + 1, w1, w3, σ =>
    if (σ 135 4) ≤ w3 then
     some (w1, σ)
    else
     (mX11_wouldRing σ w3).bind fun v2 =>
     Option.bind (α := Int32) (if f2 = 0 then
      (bo_ld 107 σ 144 (7 + w3)).bind fun v4 =>
      some v4
     else
      some 0) fun a3 =>
     (bo_st 107 σ 144 (7 + w3) a3).bind fun σ5 =>
     (bo_ld 107 σ5 144 (7 + w3)).bind fun v6 =>
     Option.bind (α := Int32) (if v2 = 0 then
      some 0
     else
      some 1) fun a7 =>
     (bo_st 107 σ5 144 (7 + w3) (v6 + a7)).bind fun σ8 =>
     Option.bind (α := Int32) (if v2 = 0 then
      some 0
     else
      some 1) fun a9 =>
     mX11_pass_L9 f2 n (w1 + a9) (w3 + 1) σ8
def mX11_pass (σ : bo_M) : Option (Int32 × bo_M) :=
  (mX11_isFirstOfDay σ).bind fun v1 =>
  (mX11_pass_L9 v1 bo_fuel 0 0 σ).bind fun a10 =>
  (bo_ld 107 a10.2 144 24).bind fun v11 =>
  (bo_st 107 a10.2 144 24 (v11 + a10.1)).bind fun σ12 =>
  (mX11_heardOf σ12 a10.1).bind fun v13 =>
  (mX11_log σ12 v13 a10.1).bind fun σ14 =>
  Option.bind (α := Int32) (if v13 ≤ 0 then
   (bo_ld 107 σ14 144 22).bind fun v16 =>
   some v16
  else
   (bo_ld 107 σ14 144 22).bind fun v17 =>
   some (bo_irm (v17 + 1) 12)) fun a15 =>
  (bo_st 107 σ14 144 22 a15).bind fun σ18 =>
  (bo_ld 107 σ18 144 23).bind fun v19 =>
  (bo_ld 107 σ18 144 23).bind fun v20 =>
  Option.bind (α := Int32) (if v20 ≤ 0 then
   some 0
  else
   some 1) fun a21 =>
  (bo_st 107 σ18 144 23 (v19 - a21)).bind fun σ22 =>
  (bo_ld 107 σ22 144 21).bind fun v23 =>
  (bo_st 107 σ22 144 21 (v23 + 1)).bind fun σ24 =>
  some (v13, σ24)
-- BellRopeModel.remember
def mX11_remember_L12  : Nat → Int32 → bo_M → Option (bo_M)
  | 0, _, _ => none
  | n + 1, w1, σ =>
    if 1712 ≤ w1 then
     some σ
    else
     (bo_ld 1712 σ 155 w1).bind fun v2 =>
     (bo_st 1712 σ 155 (w1 - 107) v2).bind fun σ3 =>
     mX11_remember_L12 n (w1 + 1) σ3
def mX11_remember_L52  : Nat → Int32 → bo_M → Option (bo_M)
  | 0, _, _ => none
  | n + 1, w1, σ =>
    if 107 ≤ w1 then
     some σ
    else
     (bo_ld 107 σ 144 w1).bind fun v6 =>
     (bo_st 1712 σ 155 ((107 * (σ 135 38)) + w1) v6).bind fun σ7 =>
     mX11_remember_L52 n (w1 + 1) σ7
def mX11_remember (σ : bo_M) : Option bo_M :=
  Option.bind (α := bo_M) (if (σ 135 38) = 16 then
   (mX11_remember_L12 bo_fuel 107 σ).bind fun a4 =>
   (some (bo_up a4 135 38 ((a4 135 38) - 1))).bind fun σ5 =>
   some σ5
  else
   some σ) fun a1 =>
  (mX11_remember_L52 bo_fuel 0 a1).bind fun a8 =>
  (some (bo_up a8 135 38 ((a8 135 38) + 1))).bind fun σ9 =>
  some σ9
-- BellRopeModel.quartersRefused
def mX11_quartersRefused (σ : bo_M) (p1 : Int32) : Option Int32 :=
  (mX11_in σ (Int32.toInt64 p1) 1 96).bind fun v1 =>
  if v1 = 0 then
   some (-1000000002)
  else
   if (σ 135 0 &&& 1) = 0 then
    some (-1000000003)
   else
    (bo_ld 107 σ 144 21).bind fun v2 =>
    if v2 ≤ 90000 then
     some 0
    else
     some (-1000000004)
-- BellRopeModel.quarter
def mX11_quarter_L21 (f1 : Int32) : Nat → Int32 → Int32 → bo_M → Option (Int32 × bo_M)
  | 0, _, _, _ => none
  | n + 1, w3, w4, σ =>
    if f1 ≤ w4 then
     some (w3, σ)
    else
     (mX11_pass σ).bind fun a3 =>
     mX11_quarter_L21 f1 n a3.1 (w4 + 1) a3.2
def mX11_quarter (σ : bo_M) (p1 : Int32) : Option (Int32 × bo_M) :=
  (mX11_quartersRefused σ p1).bind fun v1 =>
  if v1 = 0 then
   (mX11_remember σ).bind fun σ2 =>
   (mX11_quarter_L21 p1 bo_fuel 0 0 σ2).bind fun a4 =>
   some (a4.1, a4.2)
  else
   some (v1, σ)
-- BellRopeModel.come
def mX11_come (σ : bo_M) (p1 : Int32) : Option (Int32 × bo_M) :=
  (mX11_isDrinker σ p1).bind fun v1 =>
  if v1 = 0 then
   some ((-1000000001), σ)
  else
   (bo_ld 107 σ 144 (0 + p1)).bind fun v2 =>
   if v2 = 1 then
    some ((-1000000003), σ)
   else
    (mX11_remember σ).bind fun σ3 =>
    (bo_st 107 σ3 144 (0 + p1) 1).bind fun σ4 =>
    (mX11_whoIsIn σ4).bind fun v5 =>
    some (v5, σ4)
-- BellRopeModel.go
def mX11_go (σ : bo_M) (p1 : Int32) : Option (Int32 × bo_M) :=
  (mX11_isDrinker σ p1).bind fun v1 =>
  if v1 = 0 then
   some ((-1000000001), σ)
  else
   (bo_ld 107 σ 144 (0 + p1)).bind fun v2 =>
   if v2 = 0 then
    some ((-1000000003), σ)
   else
    (mX11_remember σ).bind fun σ3 =>
    (bo_st 107 σ3 144 (0 + p1) 0).bind fun σ4 =>
    (mX11_whoIsIn σ4).bind fun v5 =>
    some (v5, σ4)
-- BellRopeModel.treat
def mX11_treat (σ : bo_M) (p1 : Int32) (p2 : Int32) : Option (Int32 × bo_M) :=
  (mX11_isDrinker σ p1).bind fun v1 =>
  if v1 = 0 then
   some ((-1000000001), σ)
  else
   (mX11_in σ (Int32.toInt64 p2) 1 20).bind fun v2 =>
   if v2 = 0 then
    some ((-1000000002), σ)
   else
    (mX11_remember σ).bind fun σ3 =>
    (bo_ld 107 σ3 144 (7 + p1)).bind fun v4 =>
    Option.bind (α := Int32) (if v4 ≤ p2 then
     some 0
    else
     (bo_ld 107 σ3 144 (7 + p1)).bind fun v6 =>
     some (v6 - p2)) fun a5 =>
    (bo_st 107 σ3 144 (7 + p1) a5).bind fun σ7 =>
    (bo_ld 107 σ7 144 (7 + p1)).bind fun v8 =>
    some (v8, σ7)
-- BellRopeModel.turn
def mX11_turn (σ : bo_M) (p1 : Int32) (p2 : Int32) : Option (Int32 × bo_M) :=
  (mX11_isDrinker σ p1).bind fun v1 =>
  if v1 = 0 then
   some ((-1000000001), σ)
  else
   (mX11_in σ (Int32.toInt64 p2) 0 39).bind fun v2 =>
   if v2 = 0 then
    some ((-1000000002), σ)
   else
    (mX11_remember σ).bind fun σ3 =>
    (bo_ld 107 σ3 144 (14 + p1)).bind fun v4 =>
    (bo_st 107 σ3 144 (14 + p1) p2).bind fun σ5 =>
    some (v4, σ5)
-- BellRopeModel.hang
def mX11_hang (σ : bo_M) (p1 : Int32) : Option (Int32 × bo_M) :=
  (mX11_in σ (Int32.toInt64 p1) 0 96).bind fun v1 =>
  if v1 = 0 then
   some ((-1000000002), σ)
  else
   if (σ 135 0 &&& 1) = 0 then
    some ((-1000000003), σ)
   else
    (mX11_remember σ).bind fun σ2 =>
    (bo_ld 107 σ2 144 23).bind fun v3 =>
    (bo_st 107 σ2 144 23 p1).bind fun σ4 =>
    some (v3, σ4)
-- BellRopeModel.rain
def mX11_rain (σ : bo_M) (p1 : Int32) : Option (Int32 × bo_M) :=
  (mX11_in σ (Int32.toInt64 p1) 0 2).bind fun v1 =>
  if v1 = 0 then
   some ((-1000000002), σ)
  else
   if (σ 135 0 &&& 1) = 0 then
    some ((-1000000003), σ)
   else
    (mX11_remember σ).bind fun σ2 =>
    (bo_ld 107 σ2 144 25).bind fun v3 =>
    (bo_st 107 σ2 144 25 p1).bind fun σ4 =>
    some (v3, σ4)
-- BellRopeModel.draw
def mX11_draw (σ : bo_M) (p1 : Int32) : Option (Int32 × bo_M) :=
  (some (bo_up σ 135 17 (Int64.toInt32 (bo_lrm (((Int32.toInt64 (σ 135 17)) * 1103515245) + 12345) 2147483648)))).bind fun σ1 =>
  (bo_iremo ((σ1 135 17) / 65536) p1).bind fun v2 =>
  some (v2, σ1)
-- BellRopeModel.happen
def mX11_happen (σ : bo_M) : Option bo_M :=
  (mX11_draw σ (σ 135 4)).bind fun a1 =>
  (mX11_draw a1.2 6).bind fun a2 =>
  if a2.1 = 0 then
   (bo_st 107 a2.2 144 (0 + a1.1) 1).bind fun σ6 =>
   some σ6
  else
   if a2.1 = 1 then
    (bo_st 107 a2.2 144 (0 + a1.1) 0).bind fun σ5 =>
    some σ5
   else
    if a2.1 = 2 then
     (mX11_draw a2.2 3).bind fun a3 =>
     (bo_st 107 a3.2 144 25 a3.1).bind fun σ4 =>
     some σ4
    else
     some a2.2
-- BellRopeModel.drift
def mX11_drift_L21 (f1 : Int32) : Nat → Int32 → Int32 → bo_M → Option (Int32 × bo_M)
  | 0, _, _, _ => none
  | n + 1, w3, w4, σ =>
    if f1 ≤ w4 then
     some (w3, σ)
    else
     Option.bind (α := bo_M) (if (σ 135 4) ≤ 0 then
      some σ
     else
      (mX11_happen σ).bind fun σ4 =>
      some σ4) fun a3 =>
     (mX11_pass a3).bind fun a5 =>
     mX11_drift_L21 f1 n a5.1 (w4 + 1) a5.2
def mX11_drift (σ : bo_M) (p1 : Int32) : Option (Int32 × bo_M) :=
  (mX11_quartersRefused σ p1).bind fun v1 =>
  if v1 = 0 then
   (mX11_remember σ).bind fun σ2 =>
   (mX11_drift_L21 p1 bo_fuel 0 0 σ2).bind fun a6 =>
   some (a6.1, a6.2)
  else
   some (v1, σ)
-- BellRopeModel.undo
def mX11_undo_L23  : Nat → Int32 → bo_M → Option (bo_M)
  | 0, _, _ => none
  | n + 1, w1, σ =>
    if 107 ≤ w1 then
     some σ
    else
     (bo_ld 1712 σ 155 ((107 * (σ 135 38)) + w1)).bind fun v2 =>
     (bo_st 107 σ 144 w1 v2).bind fun σ3 =>
     mX11_undo_L23 n (w1 + 1) σ3
def mX11_undo (σ : bo_M) : Option (Int32 × bo_M) :=
  if (σ 135 38) = 0 then
   some ((-1000000003), σ)
  else
   (some (bo_up σ 135 38 ((σ 135 38) - 1))).bind fun σ1 =>
   (mX11_undo_L23 bo_fuel 0 σ1).bind fun a4 =>
   some ((a4 135 38), a4)
-- BellRopeModel.lookAhead
def mX11_lookAhead_L15  : Nat → Int32 → bo_M → Option (bo_M)
  | 0, _, _ => none
  | n + 1, w1, σ =>
    if 192 ≤ w1 then
     some σ
    else
     (mX11_pass σ).bind fun a2 =>
     (bo_st 192 a2.2 157 w1 a2.1).bind fun σ3 =>
     (bo_ld 107 σ3 144 22).bind fun v4 =>
     (bo_st 192 σ3 158 w1 v4).bind fun σ5 =>
     mX11_lookAhead_L15 n (w1 + 1) σ5
def mX11_lookAhead (σ : bo_M) : Option bo_M :=
  (mX11_copyRow σ 107 144 107 156 107).bind fun σ1 =>
  (mX11_lookAhead_L15 bo_fuel 0 σ1).bind fun a6 =>
  (mX11_copyRow a6 107 156 107 144 107).bind fun σ7 =>
  some σ7
-- BellRopeModel.strikes
def mX11_strikes (σ : bo_M) (p1 : Int32) : Option (Int32 × bo_M) :=
  (mX11_in σ (Int32.toInt64 p1) 0 191).bind fun v1 =>
  if v1 = 0 then
   some ((-1000000002), σ)
  else
   if (σ 135 0 &&& 1) = 0 then
    some ((-1000000003), σ)
   else
    (mX11_lookAhead σ).bind fun σ2 =>
    (bo_ld 192 σ2 157 p1).bind fun v3 =>
    some (v3, σ2)
-- BellRopeModel.firstHeard
def mX11_firstHeard_L2 (σ : bo_M) (f1 : Int32) (f2 : Int32) : Nat → Int32 → Option (Int32)
  | 0, _ => none
  | n + 1, w3 =>
    if f2 ≤ w3 then
     some (-1)
    else
     (bo_ld 192 σ 157 w3).bind fun v1 =>
     if v1 < f1 then
      mX11_firstHeard_L2 σ f1 f2 n (w3 + 1)
     else
      some w3
def mX11_firstHeard (σ : bo_M) (p1 : Int32) (p2 : Int32) : Option Int32 :=
  mX11_firstHeard_L2 σ p1 p2 bo_fuel 0
-- BellRopeModel.when
def mX11_when (σ : bo_M) (p1 : Int32) : Option (Int32 × bo_M) :=
  (mX11_in σ (Int32.toInt64 p1) 1 16).bind fun v1 =>
  if v1 = 0 then
   some ((-1000000002), σ)
  else
   if (σ 135 0 &&& 1) = 0 then
    some ((-1000000003), σ)
   else
    (mX11_lookAhead σ).bind fun σ2 =>
    (mX11_firstHeard σ2 p1 192).bind fun v3 =>
    some (v3, σ2)
-- BellRopeModel.hour
def mX11_hour (σ : bo_M) (p1 : Int32) : Option (Int32 × bo_M) :=
  (mX11_in σ (Int32.toInt64 p1) 0 192).bind fun v1 =>
  if v1 = 0 then
   some ((-1000000002), σ)
  else
   if (σ 135 0 &&& 1) = 0 then
    some ((-1000000003), σ)
   else
    (mX11_lookAhead σ).bind fun σ2 =>
    if p1 = 0 then
     (bo_ld 107 σ2 144 22).bind fun v4 =>
     some (v4, σ2)
    else
     (bo_ld 192 σ2 158 (p1 - 1)).bind fun v3 =>
     some (v3, σ2)
-- BellRopeModel.noon
def mX11_noon_L17 (σ : bo_M) : Nat → Int32 → Option ((Int32 × bo_M))
  | 0, _ => none
  | n + 1, w1 =>
    if 192 ≤ w1 then
     some ((-1), σ)
    else
     (bo_ld 192 σ 157 w1).bind fun v2 =>
     if v2 ≤ 0 then
      mX11_noon_L17 σ n (w1 + 1)
     else
      (bo_ld 192 σ 158 w1).bind fun v3 =>
      if v3 = 0 then
       some ((w1 + 1), σ)
      else
       mX11_noon_L17 σ n (w1 + 1)
def mX11_noon (σ : bo_M) : Option (Int32 × bo_M) :=
  if (σ 135 0 &&& 1) = 0 then
   some ((-1000000003), σ)
  else
   (mX11_lookAhead σ).bind fun σ1 =>
   mX11_noon_L17 σ1 bo_fuel 0
-- BellRopeModel.isLate
def mX11_isLate (σ : bo_M) (p1 : Int32) (p2 : Int32) : Option Int32 :=
  (mX11_firstHeard σ p2 96).bind fun v1 =>
  (bo_ld 6 σ 141 p1).bind fun v2 =>
  (bo_ld 107 σ 144 21).bind fun v3 =>
  if v1 < 0 then
   some 1
  else
   (bo_ld 6 σ 142 p1).bind fun v4 =>
   if (v1 + v4) ≤ (bo_irm ((v2 + 96) - (bo_irm v3 96)) 96) then
    some 0
   else
    some 1
-- BellRopeModel.lateOnes
def mX11_lateOnes_L4 (σ : bo_M) (f1 : Int32) : Nat → Int32 → Int32 → Option (Int32)
  | 0, _, _ => none
  | n + 1, w2, w3 =>
    if (σ 135 11) ≤ w3 then
     some w2
    else
     (mX11_isLate σ w3 f1).bind fun v1 =>
     Option.bind (α := Int32) (if v1 = 0 then
      some 0
     else
      some (1 <<< (w3 &&& 31))) fun a2 =>
     mX11_lateOnes_L4 σ f1 n (w2 ||| a2) (w3 + 1)
def mX11_lateOnes (σ : bo_M) (p1 : Int32) : Option Int32 :=
  (mX11_lateOnes_L4 σ p1 bo_fuel 0 0).bind fun a3 =>
  some a3
-- BellRopeModel.late
def mX11_late (σ : bo_M) (p1 : Int32) : Option (Int32 × bo_M) :=
  (mX11_in σ (Int32.toInt64 p1) 1 16).bind fun v1 =>
  if v1 = 0 then
   some ((-1000000002), σ)
  else
   if (σ 135 0 &&& 1) = 0 then
    some ((-1000000003), σ)
   else
    (mX11_lookAhead σ).bind fun σ2 =>
    (mX11_lateOnes σ2 p1).bind fun v3 =>
    some (v3, σ2)
-- BellRopeModel.best
def mX11_best_L37 (σ : bo_M) (f1 : Int32) : Nat → Int32 → Int32 → Int32 → Option (Int32 × Int32)
  | 0, _, _, _ => none
  | n + 1, w2, w3, w4 =>
    if 16 < w4 then
     some (w2, w3)
    else
     (mX11_lateOnes σ w4).bind fun v3 =>
     (mX11_bits σ v3).bind fun v4 =>
     Option.bind (α := Int32) (if w3 ≤ v4 then
      some w2
     else
      some w4) fun a5 =>
     Option.bind (α := Int32) (if w3 ≤ v4 then
      some w3
     else
      some v4) fun a6 =>
     mX11_best_L37 σ f1 n a5 a6 (w4 + 1)
def mX11_best (σ : bo_M) (p1 : Int32) : Option (Int32 × bo_M) :=
  (mX11_in σ (Int32.toInt64 p1) 0 1).bind fun v1 =>
  if v1 = 0 then
   some ((-1000000002), σ)
  else
   if (σ 135 0 &&& 1) = 0 then
    some ((-1000000003), σ)
   else
    (mX11_lookAhead σ).bind fun σ2 =>
    (mX11_best_L37 σ2 p1 bo_fuel (-1) 100000 1).bind fun a7 =>
    if p1 = 0 then
     some (a7.1, σ2)
    else
     some (a7.2, σ2)
-- BellRopeModel.alone
def mX11_alone_L20 (σ : bo_M) (f1 : Int32) : Nat → Int32 → Int32 → Option (Int32)
  | 0, _, _ => none
  | n + 1, w2, w3 =>
    if 16 < w3 then
     some w2
    else
     (mX11_isLate σ f1 w3).bind fun v3 =>
     Option.bind (α := Int32) (if v3 = 0 then
      some (1 <<< (w3 &&& 31))
     else
      some 0) fun a4 =>
     mX11_alone_L20 σ f1 n (w2 ||| a4) (w3 + 1)
def mX11_alone (σ : bo_M) (p1 : Int32) : Option (Int32 × bo_M) :=
  (mX11_isGoer σ p1).bind fun v1 =>
  if v1 = 0 then
   some ((-1000000001), σ)
  else
   (mX11_lookAhead σ).bind fun σ2 =>
   (mX11_alone_L20 σ2 p1 bo_fuel 0 1).bind fun a5 =>
   some (a5, σ2)
-- BellRopeModel.given
def mX11_given_L42 (σ : bo_M) (f1 : Int32) (f3 : Int32) : Nat → Int32 → Int32 → Option (Int32)
  | 0, _, _ => none
  | n + 1, w2, w4 =>
    if (σ 135 14) ≤ w4 then
     some w2
    else
     (bo_ld 192 σ 157 f3).bind fun v3 =>
     (bo_ld 5 σ 143 w4).bind fun v4 =>
     Option.bind (α := Int32) (if v3 = v4 then
      some (1 <<< (w4 &&& 31))
     else
      some 0) fun a5 =>
     mX11_given_L42 σ f1 f3 n (w2 ||| a5) (w4 + 1)
def mX11_given_L34 (σ : bo_M) (f1 : Int32) : Nat → Int32 → Int32 → Option (Int32)
  | 0, _, _ => none
  | n + 1, w2, w3 =>
    if f1 ≤ w3 then
     some w2
    else
     (mX11_given_L42 σ f1 w3 bo_fuel w2 0).bind fun a6 =>
     mX11_given_L34 σ f1 n a6 (w3 + 1)
def mX11_given (σ : bo_M) (p1 : Int32) : Option (Int32 × bo_M) :=
  (mX11_in σ (Int32.toInt64 p1) 1 192).bind fun v1 =>
  if v1 = 0 then
   some ((-1000000002), σ)
  else
   if (σ 135 0 &&& 1) = 0 then
    some ((-1000000003), σ)
   else
    (mX11_lookAhead σ).bind fun σ2 =>
    (mX11_given_L34 σ2 p1 bo_fuel 0 0).bind fun a7 =>
    some (a7, σ2)
-- BellRopeModel.mistaken
def mX11_mistaken_L20 (σ : bo_M) (f1 : Int32) (f2 : Int32) : Nat → Int32 → Int32 → Option (Int32)
  | 0, _, _ => none
  | n + 1, w3, w4 =>
    if (σ 135 14) ≤ w4 then
     some w3
    else
     Option.bind (α := Int32) (if w3 = 0 then
      (bo_ld 107 σ 144 (67 + f2)).bind fun v3 =>
      (bo_ld 5 σ 143 w4).bind fun v4 =>
      if v3 = v4 then
       some 1
      else
       some 0
     else
      some 1) fun a2 =>
     mX11_mistaken_L20 σ f1 f2 n a2 (w4 + 1)
def mX11_mistaken_L4 (σ : bo_M) : Nat → Int32 → Int32 → Option (Int32)
  | 0, _, _ => none
  | n + 1, w1, w2 =>
    (bo_ld 107 σ 144 26).bind fun v1 =>
    if v1 ≤ w2 then
     some w1
    else
     (mX11_mistaken_L20 σ w1 w2 bo_fuel 0 0).bind fun a5 =>
     Option.bind (α := Int32) (if a5 = 0 then
      some 0
     else
      (bo_ld 107 σ 144 (27 + w2)).bind fun v7 =>
      (bo_ld 107 σ 144 (67 + w2)).bind fun v8 =>
      if v7 = v8 then
       some 0
      else
       some 1) fun a6 =>
     mX11_mistaken_L4 σ n (w1 + a6) (w2 + 1)
def mX11_mistaken (σ : bo_M) : Option Int32 :=
  (mX11_mistaken_L4 σ bo_fuel 0 0).bind fun a9 =>
  some a9
-- BellRopeModel.costOf
def mX11_costOf (σ : bo_M) (p1 : Int32) : Option Int32 :=
  (bo_ld 107 σ 144 (7 + p1)).bind fun v1 =>
  (bo_ld 7 σ 137 p1).bind fun v2 =>
  Option.bind (α := Int32) (if v1 < v2 then
   some 0
  else
   (mX11_isFirstOfDay σ).bind fun v4 =>
   if v4 = 0 then
    some 1
   else
    some 0) fun a3 =>
  (bo_ld 107 σ 144 (0 + p1)).bind fun v5 =>
  Option.bind (α := Int32) (if v5 = 0 then
   some 1
  else
   some 0) fun a6 =>
  Option.bind (α := Int32) (if a3 = 0 then
   some 0
  else
   some 1) fun a7 =>
  some (a6 + a7)
-- BellRopeModel.costs
def mX11_costs_L4 (σ : bo_M) (f1 : Int32) : Nat → Int32 → Int32 → Option (Int32)
  | 0, _, _ => none
  | n + 1, w2, w3 =>
    if (σ 135 4) ≤ w3 then
     some w2
    else
     (mX11_has σ f1 w3).bind fun v1 =>
     Option.bind (α := Int32) (if v1 = 0 then
      some 0
     else
      (mX11_costOf σ w3).bind fun v3 =>
      some v3) fun a2 =>
     mX11_costs_L4 σ f1 n (w2 + a2) (w3 + 1)
def mX11_costs (σ : bo_M) (p1 : Int32) : Option Int32 :=
  (mX11_costs_L4 σ p1 bo_fuel 0 0).bind fun a4 =>
  some a4
-- BellRopeModel.rungWith
def mX11_rungWith_L4 (σ : bo_M) (f1 : Int32) : Nat → Int32 → Int32 → Option (Int32)
  | 0, _, _ => none
  | n + 1, w2, w3 =>
    if (σ 135 4) ≤ w3 then
     some w2
    else
     (mX11_has σ f1 w3).bind fun v1 =>
     Option.bind (α := Int32) (if v1 = 0 then
      some 0
     else
      (bo_ld 107 σ 144 21).bind fun v3 =>
      (mX11_isTurn σ w3 v3).bind fun v4 =>
      if v4 = 0 then
       some 0
      else
       some 1) fun a2 =>
     Option.bind (α := Int32) (if a2 = 0 then
      (mX11_wouldRing σ w3).bind fun v6 =>
      if v6 = 0 then
       some 0
      else
       some 1
     else
      some 1) fun a5 =>
     mX11_rungWith_L4 σ f1 n (w2 + a5) (w3 + 1)
def mX11_rungWith (σ : bo_M) (p1 : Int32) : Option Int32 :=
  (mX11_rungWith_L4 σ p1 bo_fuel 0 0).bind fun a7 =>
  some a7
-- BellRopeModel.vespers
def mX11_vespers_L46 (σ : bo_M) (f1 : Int32) (f2 : Int32) : Nat → Int32 → Int32 → Int32 → Option (Int32 × Int32)
  | 0, _, _, _ => none
  | n + 1, w3, w4, w5 =>
    if (1 <<< ((σ 135 4) &&& 31)) ≤ w5 then
     some (w3, w4)
    else
     (mX11_costs σ w5).bind fun v3 =>
     Option.bind (α := Int32 × Int32) (if w4 ≤ v3 then
      some (w3, w4)
     else
      (mX11_rungWith σ w5).bind fun v5 =>
      (mX11_heardOf σ v5).bind fun v6 =>
      if v6 < f1 then
       some (w3, w4)
      else
       some (w5, v3)) fun a4 =>
     mX11_vespers_L46 σ f1 f2 n a4.1 a4.2 (w5 + 1)
def mX11_vespers (σ : bo_M) (p1 : Int32) (p2 : Int32) : Option Int32 :=
  (mX11_in σ (Int32.toInt64 p1) 1 16).bind fun v1 =>
  if v1 = 0 then
   some (-1000000002)
  else
   (mX11_in σ (Int32.toInt64 p2) 0 1).bind fun v2 =>
   if v2 = 0 then
    some (-1000000002)
   else
    if (σ 135 0 &&& 1) = 0 then
     some (-1000000003)
    else
     (mX11_vespers_L46 σ p1 p2 bo_fuel (-1) 100000 0).bind fun a7 =>
     if a7.1 < 0 then
      some a7.1
     else
      if p2 = 1 then
       some a7.1
      else
       some a7.2
-- BellRopeModel.ship
def mX11_ship_L34 (σ : bo_M) : Nat → Int32 → Int32 → Option ((Int32 × bo_M))
  | 0, _, _ => none
  | n + 1, w2, w3 =>
    if 192 ≤ w3 then
     some ((-1), σ)
    else
     (bo_ld 192 σ 157 w3).bind fun v3 =>
     Option.bind (α := Int32) (if w2 ≤ (2 * v3) then
      some 1
     else
      (bo_ld 192 σ 157 w3).bind fun v5 =>
      if v5 < 3 then
       some 0
      else
       some 1) fun a4 =>
     if (w2 - a4) = 0 then
      some ((w3 + 1), σ)
     else
      mX11_ship_L34 σ n (w2 - a4) (w3 + 1)
def mX11_ship (σ : bo_M) (p1 : Int32) : Option (Int32 × bo_M) :=
  (mX11_in σ (Int32.toInt64 p1) 1 99).bind fun v1 =>
  if v1 = 0 then
   some ((-1000000002), σ)
  else
   if (σ 135 0 &&& 1) = 0 then
    some ((-1000000003), σ)
   else
    (mX11_lookAhead σ).bind fun σ2 =>
    mX11_ship_L34 σ2 bo_fuel p1 0
-- BellRopeModel.widows
def mX11_widows_L19 (σ : bo_M) (f1 : Int32) : Nat → Int32 → Int32 → Option (Int32)
  | 0, _, _ => none
  | n + 1, w2, w3 =>
    (bo_ld 107 σ 144 26).bind fun v2 =>
    if v2 ≤ w3 then
     some w2
    else
     Option.bind (α := Int32) (if w3 ≤ 0 then
      some 0
     else
      (bo_ld 107 σ 144 (27 + w3)).bind fun v4 =>
      (bo_ld 107 σ 144 ((27 + w3) - 1)).bind fun v5 =>
      if v4 = v5 then
       some 1
      else
       some 0) fun a3 =>
     Option.bind (α := Int32) (if a3 = 0 then
      (bo_ld 107 σ 144 (27 + w3)).bind fun v7 =>
      some (f1 * v7)
     else
      some 0) fun a6 =>
     mX11_widows_L19 σ f1 n (w2 + a6) (w3 + 1)
def mX11_widows (σ : bo_M) (p1 : Int32) : Option Int32 :=
  (mX11_in σ (Int32.toInt64 p1) 0 99).bind fun v1 =>
  if v1 = 0 then
   some (-1000000002)
  else
   (mX11_widows_L19 σ p1 bo_fuel 0 0).bind fun a8 =>
   some a8
-- BellRopeModel.odds
def mX11_odds_L28 (f1 : Int32) : Nat → Int32 → bo_M → Option (bo_M)
  | 0, _, _ => none
  | n + 1, w2, σ =>
    if 8 ≤ w2 then
     some σ
    else
     (bo_st 8 σ 159 w2 0).bind fun σ2 =>
     mX11_odds_L28 f1 n (w2 + 1) σ2
def mX11_odds_L69 (f1 : Int32) (f2 : Int32) : Nat → Int32 → bo_M → Option (bo_M)
  | 0, _, _ => none
  | n + 1, w3, σ =>
    if w3 < 0 then
     some σ
    else
     (mX11_wouldRing σ f2).bind fun v5 =>
     if v5 = 0 then
      some σ
     else
      (bo_ld 8 σ 159 w3).bind fun v6 =>
      (bo_ld 7 σ 138 f2).bind fun v7 =>
      (bo_ld 8 σ 159 w3).bind fun v8 =>
      (bo_st 8 σ 159 w3 (v8 - ((v6 * v7) / 100))).bind fun σ9 =>
      (bo_ld 8 σ9 159 (w3 + 1)).bind fun v10 =>
      (bo_st 8 σ9 159 (w3 + 1) (v10 + ((v6 * v7) / 100))).bind fun σ11 =>
      mX11_odds_L69 f1 f2 n (w3 + (-1)) σ11
def mX11_odds_L58 (f1 : Int32) : Nat → Int32 → bo_M → Option (bo_M)
  | 0, _, _ => none
  | n + 1, w2, σ =>
    if (σ 135 4) ≤ w2 then
     some σ
    else
     (mX11_odds_L69 f1 w2 bo_fuel 6 σ).bind fun a12 =>
     mX11_odds_L58 f1 n (w2 + 1) a12
def mX11_odds_L139 (σ : bo_M) (f1 : Int32) : Nat → Int32 → Int32 → Option (Int32)
  | 0, _, _ => none
  | n + 1, w2, w3 =>
    if 8 ≤ w3 then
     some w2
    else
     Option.bind (α := Int32) (if w3 < f1 then
      some 0
     else
      (bo_ld 8 σ 159 w3).bind fun v15 =>
      some v15) fun a14 =>
     mX11_odds_L139 σ f1 n (w2 + a14) (w3 + 1)
def mX11_odds (σ : bo_M) (p1 : Int32) : Option (Int32 × bo_M) :=
  (mX11_in σ (Int32.toInt64 p1) 0 16).bind fun v1 =>
  if v1 = 0 then
   some ((-1000000002), σ)
  else
   if (σ 135 0 &&& 1) = 0 then
    some ((-1000000003), σ)
   else
    (mX11_odds_L28 p1 bo_fuel 0 σ).bind fun a3 =>
    (bo_st 8 a3 159 0 1000000).bind fun σ4 =>
    (mX11_odds_L58 p1 bo_fuel 0 σ4).bind fun a13 =>
    (mX11_odds_L139 a13 p1 bo_fuel 0 0).bind fun a16 =>
    some (a16, a13)
-- BellRopeModel.most
def mX11_most_L6 (σ : bo_M) : Nat → Int32 → Int32 → Int32 → Option (Int32)
  | 0, _, _, _ => none
  | n + 1, w1, w2, w3 =>
    if (σ 135 4) ≤ w3 then
     some w1
    else
     (bo_ld 107 σ 144 (7 + w3)).bind fun v1 =>
     Option.bind (α := Int32) (if v1 ≤ w2 then
      some w1
     else
      some w3) fun a2 =>
     (bo_ld 107 σ 144 (7 + w3)).bind fun v3 =>
     Option.bind (α := Int32) (if v3 ≤ w2 then
      some w2
     else
      (bo_ld 107 σ 144 (7 + w3)).bind fun v5 =>
      some v5) fun a4 =>
     mX11_most_L6 σ n a2 a4 (w3 + 1)
def mX11_most (σ : bo_M) : Option Int32 :=
  (mX11_most_L6 σ bo_fuel (-1) 0 0).bind fun a6 =>
  some a6
-- BellRopeModel.common
def mX11_common_L4 (σ : bo_M) : Nat → Int32 → Int32 → Option (Int32)
  | 0, _, _ => none
  | n + 1, w2, w3 =>
    if w3 ≤ 0 then
     some w2
    else
     (bo_iremo w2 w3).bind fun v1 =>
     mX11_common_L4 σ n w3 v1
def mX11_common (σ : bo_M) (p0 : Int32) (p1 : Int32) : Option Int32 :=
  (mX11_common_L4 σ bo_fuel p0 p1).bind fun a2 =>
  some a2
-- BellRopeModel.round
def mX11_round_L4 (σ : bo_M) : Nat → Int64 → Int32 → Option (Int32)
  | 0, _, _ => none
  | n + 1, w1, w3 =>
    if (σ 135 4) ≤ w3 then
     some (Int64.toInt32 w1)
    else
     (bo_ld 107 σ 144 (0 + w3)).bind fun v1 =>
     Option.bind (α := Int64) (if v1 = 1 then
      (bo_ld 7 σ 136 w3).bind fun v3 =>
      (mX11_common σ (Int64.toInt32 w1) v3).bind fun v4 =>
      (bo_ldivo w1 (Int32.toInt64 v4)).bind fun v5 =>
      (bo_ld 7 σ 136 w3).bind fun v6 =>
      some (v5 * (Int32.toInt64 v6))
     else
      some w1) fun a2 =>
     if (lg_cmp a2 999999) ≤ 0 then
      mX11_round_L4 σ n a2 (w3 + 1)
     else
      some 999999
def mX11_round (σ : bo_M) : Option Int32 :=
  mX11_round_L4 σ bo_fuel 1 0
-- BellRopeModel.isAhead
def mX11_isAhead (σ : bo_M) (p1 : Int32) (p2 : Int32) : Option Int32 :=
  (bo_ld 107 σ 144 (7 + p1)).bind fun v1 =>
  (bo_ld 107 σ 144 (7 + p2)).bind fun v2 =>
  if v2 < v1 then
   some 1
  else
   (bo_ld 107 σ 144 (7 + p1)).bind fun v3 =>
   (bo_ld 107 σ 144 (7 + p2)).bind fun v4 =>
   if v3 = v4 then
    if p2 ≤ p1 then
     some 0
    else
     some 1
   else
    some 0
-- BellRopeModel.share
def mX11_share_L35 (σ : bo_M) (f1 : Int32) : Nat → Int32 → Int32 → Int32 → Int32 → Option (Int32 × Int32 × Int32)
  | 0, _, _, _, _ => none
  | n + 1, w2, w3, w4, w5 =>
    if (σ 135 4) ≤ w5 then
     some (w2, w3, w4)
    else
     (bo_ld 107 σ 144 (7 + w5)).bind fun v3 =>
     (bo_ld 107 σ 144 (0 + w5)).bind fun v4 =>
     (bo_ld 107 σ 144 (0 + w5)).bind fun v5 =>
     Option.bind (α := Int32) (if v5 = 1 then
      if w5 = f1 then
       some 0
      else
       (mX11_isAhead σ w5 f1).bind fun v7 =>
       if v7 = 0 then
        some 0
       else
        some 1
     else
      some 0) fun a6 =>
     mX11_share_L35 σ f1 n (w2 + v3) (w3 + v4) (w4 + a6) (w5 + 1)
def mX11_share (σ : bo_M) (p1 : Int32) : Option Int32 :=
  (mX11_isDrinker σ p1).bind fun v1 =>
  if v1 = 0 then
   some (-1000000001)
  else
   (bo_ld 107 σ 144 (0 + p1)).bind fun v2 =>
   if v2 = 0 then
    some 0
   else
    (mX11_share_L35 σ p1 bo_fuel 0 0 0 0).bind fun a8 =>
    (bo_idivo a8.1 a8.2.1).bind fun v9 =>
    (bo_iremo a8.1 a8.2.1).bind fun v10 =>
    Option.bind (α := Int32) (if v10 ≤ a8.2.2 then
     some 0
    else
     some 1) fun a11 =>
    some (v9 + a11)
-- BellRopeModel.was
def mX11_was (σ : bo_M) (p1 : Int32) (p2 : Int32) : Option (Int32 × bo_M) :=
  (mX11_in σ (Int32.toInt64 p1) 0 95).bind fun v1 =>
  if v1 = 0 then
   some ((-1000000002), σ)
  else
   (mX11_in σ (Int32.toInt64 p2) 0 16).bind fun v2 =>
   if v2 = 0 then
    some ((-1000000002), σ)
   else
    if (σ 135 0 &&& 1) = 0 then
     some ((-1000000003), σ)
    else
     if (σ 135 44) = 6 then
      some ((-1000000004), σ)
     else
      (bo_st 6 σ 160 (σ 135 44) p1).bind fun σ3 =>
      (bo_st 6 σ3 161 (σ3 135 44) p2).bind fun σ4 =>
      (some (bo_up σ4 135 44 ((σ4 135 44) + 1))).bind fun σ5 =>
      some ((σ5 135 44), σ5)
-- BellRopeModel.heardBy
def mX11_heardBy_L6 (σ : bo_M) (f1 : Int32) (f2 : Int32) (f3 : Int32) : Nat → Int32 → Int32 → Option (Int32)
  | 0, _, _ => none
  | n + 1, w4, w5 =>
    if (σ 135 4) ≤ w5 then
     some w4
    else
     (mX11_has σ f1 w5).bind fun v1 =>
     Option.bind (α := Int32) (if v1 = 0 then
      some 0
     else
      (mX11_isTurn σ w5 f2).bind fun v3 =>
      if v3 = 0 then
       some 0
      else
       some 1) fun a2 =>
     mX11_heardBy_L6 σ f1 f2 f3 n (w4 + a2) (w5 + 1)
def mX11_heardBy (σ : bo_M) (p1 : Int32) (p2 : Int32) (p3 : Int32) : Option Int32 :=
  (mX11_heardBy_L6 σ p1 p2 p3 bo_fuel 0 0).bind fun a4 =>
  (mX11_isBlanketed σ p2).bind fun v5 =>
  Option.bind (α := Int32) (if v5 = 0 then
   some 0
  else
   some p3) fun a6 =>
  (mX11_muffle σ a4 a6).bind fun v7 =>
  some v7
-- BellRopeModel.couldBe
def mX11_couldBe_L5 (σ : bo_M) (f1 : Int32) (f2 : Int32) : Nat → Int32 → Int32 → Option (Int32)
  | 0, _, _ => none
  | n + 1, w3, w4 =>
    if (σ 135 44) ≤ w4 then
     some w3
    else
     Option.bind (α := Int32) (if w3 = 0 then
      some 0
     else
      (bo_ld 6 σ 160 w4).bind fun v2 =>
      (mX11_heardBy σ f1 v2 f2).bind fun v3 =>
      (bo_ld 6 σ 161 w4).bind fun v4 =>
      if v3 = v4 then
       some 1
      else
       some 0) fun a1 =>
     mX11_couldBe_L5 σ f1 f2 n a1 (w4 + 1)
def mX11_couldBe (σ : bo_M) (p1 : Int32) (p2 : Int32) : Option Int32 :=
  (mX11_couldBe_L5 σ p1 p2 bo_fuel 1 0).bind fun a5 =>
  bo_zr a5
-- BellRopeModel.could
def mX11_could_L51 (σ : bo_M) (f1 : Int32) (f4 : Int32) : Nat → Int32 → Int32 → Int32 → Int32 → Int32 → Option (Int32 × Int32 × Int32 × Int32)
  | 0, _, _, _, _, _ => none
  | n + 1, w2, w3, w5, w6, w7 =>
    if f4 < w7 then
     some (w2, w3, w5, w6)
    else
     (mX11_couldBe σ w7 (σ 135 2)).bind fun v2 =>
     Option.bind (α := Int32 × Int32 × Int32 × Int32) (if v2 = 0 then
      some (w2, w3, w5, w6)
     else
      Option.bind (α := Int32) (if w2 = 0 then
       some w7
      else
       some w3) fun a4 =>
      some ((w2 + 1), a4, (w5 &&& w7), (w6 &&& (w7 ^^^ (-1))))) fun a3 =>
     mX11_could_L51 σ f1 f4 n a3.1 a3.2.1 a3.2.2.1 a3.2.2.2 (w7 + 1)
def mX11_could (σ : bo_M) (p1 : Int32) : Option Int32 :=
  (mX11_in σ (Int32.toInt64 p1) 0 3).bind fun v1 =>
  if v1 = 0 then
   some (-1000000002)
  else
   if (σ 135 0 &&& 1) = 0 then
    some (-1000000003)
   else
    (mX11_could_L51 σ p1 ((1 <<< ((σ 135 4) &&& 31)) - 1) bo_fuel 0 (-1) ((1 <<< ((σ 135 4) &&& 31)) - 1) ((1 <<< ((σ 135 4) &&& 31)) - 1) 0).bind fun a5 =>
    if p1 = 0 then
     some a5.1
    else
     if p1 = 1 then
      some a5.2.1
     else
      if a5.1 = 0 then
       some 0
      else
       if p1 = 2 then
        some a5.2.2.1
       else
        some a5.2.2.2
-- BellRopeModel.greatestPart
def mX11_greatestPart_L4 (f1 : Int32) (f2 : Int32) : Nat → Int32 → bo_M → Option (bo_M)
  | 0, _, _ => none
  | n + 1, w3, σ =>
    if 20 ≤ w3 then
     some σ
    else
     (bo_st 20 σ 163 w3 0).bind fun σ1 =>
     mX11_greatestPart_L4 f1 f2 n (w3 + 1) σ1
def mX11_greatestPart_L25 (f1 : Int32) : Nat → Int32 → Int32 → bo_M → Option (Int32 × bo_M)
  | 0, _, _, _ => none
  | n + 1, w2, w3, σ =>
    if (1 <<< ((σ 135 4) &&& 31)) ≤ w3 then
     some (w2, σ)
    else
     (bo_ld 128 σ 162 w3).bind fun v3 =>
     Option.bind (α := Int32 × bo_M) (if v3 = 0 then
      some (w2, σ)
     else
      (mX11_heardBy σ w3 f1 (σ 135 2)).bind fun v5 =>
      (bo_ld 20 σ 163 v5).bind fun v6 =>
      (bo_st 20 σ 163 v5 (v6 + 1)).bind fun σ7 =>
      (bo_ld 20 σ7 163 v5).bind fun v8 =>
      Option.bind (α := Int32) (if v8 ≤ w2 then
       some w2
      else
       (bo_ld 20 σ7 163 v5).bind fun v10 =>
       some v10) fun a9 =>
      some (a9, σ7)) fun a4 =>
     mX11_greatestPart_L25 f1 n a4.1 (w3 + 1) a4.2
def mX11_greatestPart (σ : bo_M) (p1 : Int32) : Option (Int32 × bo_M) :=
  (mX11_greatestPart_L4 p1 0 bo_fuel 0 σ).bind fun a2 =>
  (mX11_greatestPart_L25 p1 bo_fuel 0 0 a2).bind fun a11 =>
  some (a11.1, a11.2)
-- BellRopeModel.listen
def mX11_listen_L17 (f1 : Int32) : Nat → Int32 → Int32 → bo_M → Option (Int32 × bo_M)
  | 0, _, _, _ => none
  | n + 1, w2, w3, σ =>
    if (1 <<< ((σ 135 4) &&& 31)) ≤ w3 then
     some (w2, σ)
    else
     (mX11_couldBe σ w3 (σ 135 2)).bind fun v1 =>
     (bo_st 128 σ 162 w3 (v1 &&& 1)).bind fun σ2 =>
     (bo_ld 128 σ2 162 w3).bind fun v3 =>
     Option.bind (α := Int32) (if v3 = 0 then
      some 0
     else
      some 1) fun a4 =>
     mX11_listen_L17 f1 n (w2 + a4) (w3 + 1) σ2
def mX11_listen_L67  : Nat → Int32 → Int32 → Int32 → bo_M → Option (Int32 × bo_M)
  | 0, _, _, _, _ => none
  | n + 1, w1, w2, w3, σ =>
    if 96 ≤ w3 then
     some (w1, σ)
    else
     (mX11_greatestPart σ w3).bind fun a6 =>
     Option.bind (α := Int32) (if w2 ≤ a6.1 then
      some w1
     else
      some w3) fun a7 =>
     Option.bind (α := Int32) (if w2 ≤ a6.1 then
      some w2
     else
      some a6.1) fun a8 =>
     mX11_listen_L67 n a7 a8 (w3 + 1) a6.2
def mX11_listen (σ : bo_M) : Option (Int32 × bo_M) :=
  if (σ 135 0 &&& 1) = 0 then
   some ((-1000000003), σ)
  else
   (mX11_listen_L17 (-1) bo_fuel 0 0 σ).bind fun a5 =>
   (mX11_listen_L67 bo_fuel (-1) a5.1 0 a5.2).bind fun a9 =>
   some (a9.1, a9.2)
-- BellRopeModel.muffled
def mX11_muffled_L15 (σ : bo_M) : Nat → Int32 → Int32 → Option (Int32)
  | 0, _, _ => none
  | n + 1, w1, w2 =>
    if 10 ≤ w2 then
     some w1
    else
     (mX11_whoIsIn σ).bind fun v1 =>
     (mX11_couldBe σ v1 w2).bind fun v2 =>
     Option.bind (α := Int32) (if v2 = 0 then
      some 0
     else
      some (1 <<< (w2 &&& 31))) fun a3 =>
     mX11_muffled_L15 σ n (w1 ||| a3) (w2 + 1)
def mX11_muffled (σ : bo_M) : Option Int32 :=
  if (σ 135 0 &&& 1) = 0 then
   some (-1000000003)
  else
   (mX11_muffled_L15 σ bo_fuel 0 0).bind fun a4 =>
   some a4
-- BellRopeModel.write
def mX11_write (σ : bo_M) (p1 : Int32) (p2 : Int32) : Option (Int32 × bo_M) :=
  (mX11_isDrinker σ p1).bind fun v1 =>
  if v1 = 0 then
   some ((-1000000001), σ)
  else
   (mX11_in σ (Int32.toInt64 p2) 0 20).bind fun v2 =>
   if v2 = 0 then
    some ((-1000000002), σ)
   else
    if (σ 135 49) = 15 then
     some ((-1000000004), σ)
    else
     (bo_st 15 σ 164 (σ 135 49) p1).bind fun σ3 =>
     (bo_st 15 σ3 165 (σ3 135 49) p2).bind fun σ4 =>
     (some (bo_up σ4 135 49 ((σ4 135 49) + 1))).bind fun σ5 =>
     some ((σ5 135 49), σ5)
-- BellRopeModel.tear
def mX11_tear (σ : bo_M) : Option (Int32 × bo_M) :=
  (some (bo_up σ 135 44 0)).bind fun σ1 =>
  (some (bo_up σ1 135 49 0)).bind fun σ2 =>
  some (((σ 135 44) + (σ 135 49)), σ2)
-- BellRopeModel.judge
def mX11_judge_L2 (σ : bo_M) : Nat → Int32 → Option (Int32)
  | 0, _ => none
  | n + 1, w1 =>
    if (σ 135 49) ≤ w1 then
     some (-1)
    else
     (bo_ld 15 σ 164 w1).bind fun v1 =>
     (bo_ld 107 σ 144 (7 + v1)).bind fun v2 =>
     (bo_ld 15 σ 165 w1).bind fun v3 =>
     if v2 = v3 then
      mX11_judge_L2 σ n (w1 + 1)
     else
      some w1
def mX11_judge (σ : bo_M) : Option Int32 :=
  mX11_judge_L2 σ bo_fuel 0
-- BellRopeModel.seed
def mX11_seed (σ : bo_M) (p1 : Int32) : Option (Int32 × bo_M) :=
  if 0 ≤ p1 then
   (some (bo_up σ 135 17 p1)).bind fun σ1 =>
   some ((σ 135 17), σ1)
  else
   some ((-1000000002), σ)
-- BellRopeModel.keep
def mX11_keep_L16 (f1 : Int32) : Nat → Int32 → bo_M → Option (bo_M)
  | 0, _, _ => none
  | n + 1, w2, σ =>
    if 107 ≤ w2 then
     some σ
    else
     (bo_ld 107 σ 144 w2).bind fun v2 =>
     (bo_st 216 σ 166 ((108 * f1) + w2) v2).bind fun σ3 =>
     mX11_keep_L16 f1 n (w2 + 1) σ3
def mX11_keep (σ : bo_M) (p1 : Int32) : Option (Int32 × bo_M) :=
  (mX11_in σ (Int32.toInt64 p1) 0 1).bind fun v1 =>
  if v1 = 0 then
   some ((-1000000001), σ)
  else
   (mX11_keep_L16 p1 bo_fuel 0 σ).bind fun a4 =>
   (bo_st 216 a4 166 ((108 * p1) + 107) (a4 135 17)).bind fun σ5 =>
   (bo_st 2 σ5 167 p1 (1 &&& 1)).bind fun σ6 =>
   (some (bo_up σ6 135 38 0)).bind fun σ7 =>
   some (1, σ7)
-- BellRopeModel.goBack
def mX11_goBack_L29 (f1 : Int32) : Nat → Int32 → bo_M → Option (bo_M)
  | 0, _, _ => none
  | n + 1, w2, σ =>
    if 107 ≤ w2 then
     some σ
    else
     (bo_ld 216 σ 166 ((108 * f1) + w2)).bind fun v3 =>
     (bo_st 107 σ 144 w2 v3).bind fun σ4 =>
     mX11_goBack_L29 f1 n (w2 + 1) σ4
def mX11_goBack (σ : bo_M) (p1 : Int32) : Option (Int32 × bo_M) :=
  (mX11_in σ (Int32.toInt64 p1) 0 1).bind fun v1 =>
  if v1 = 0 then
   some ((-1000000001), σ)
  else
   (bo_ld 2 σ 167 p1).bind fun v2 =>
   if v2 = 0 then
    some ((-1000000003), σ)
   else
    (mX11_goBack_L29 p1 bo_fuel 0 σ).bind fun a5 =>
    (bo_ld 216 a5 166 ((108 * p1) + 107)).bind fun v6 =>
    (some (bo_up a5 135 17 v6)).bind fun σ7 =>
    (some (bo_up σ7 135 38 0)).bind fun σ8 =>
    some (1, σ8)
end
