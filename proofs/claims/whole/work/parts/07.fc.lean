def FU : Nat := 20000
def P_isBelow (x0 : Int32) (x1 : Int32) (σ : St) : Option Bool :=
  if x0 < 0 then
    some false
  else
    if x1 ≤ x0 then
      some false
    else
      some true
def Roll_addPlace (x1 : Int32) (σ : St) : Option (Int32 × St) :=
  if (σ.1 1 4) < (16 : Int32) then
    if inb (σ.1 1 4) 16 then
      some ((σ.1 1 4), (wI (wI σ 2 (Int32.toNatClampNeg (σ.1 1 4)) x1) 1 4 ((σ.1 1 4) + (1 : Int32))))
    else none
  else
    some ((-4 : Int32), σ)
def P_place (x1 : Int32) (σ : St) : Option (Int32 × St) :=
  Option.bind (P_isBelow x1 (6 : Int32) σ) fun r3 =>
  if r3 = true then
    Option.bind (Roll_addPlace x1 σ) fun q17 =>
    some (q17.1, q17.2)
  else
    some ((-2 : Int32), σ)
def Roll_addBand (x1 : Int32) (x2 : Int32) (σ : St) : Option (Int32 × St) :=
  if (σ.1 1 5) < (6 : Int32) then
    if inb (σ.1 1 5) 6 then
      if inb (σ.1 1 5) 6 then
        some ((σ.1 1 5), (wI (wI (wI σ 3 (Int32.toNatClampNeg (σ.1 1 5)) x1) 4 (Int32.toNatClampNeg (σ.1 1 5)) x2) 1 5 ((σ.1 1 5) + (1 : Int32))))
      else none
    else none
  else
    some ((-4 : Int32), σ)
def P_band (x1 : Int32) (x2 : Int32) (σ : St) : Option (Int32 × St) :=
  Option.bind (P_isBelow x1 (10 : Int32) σ) fun r3 =>
  if r3 = true then
    Option.bind (P_isBelow x2 (10 : Int32) σ) fun r12 =>
    if r12 = true then
      Option.bind (Roll_addBand x1 x2 σ) fun q27 =>
      some (q27.1, q27.2)
    else
      some ((-2 : Int32), σ)
  else
    some ((-2 : Int32), σ)
def Roll_addHouse (x1 : Int32) (σ : St) : Option (Int32 × St) :=
  if (σ.1 1 6) < (4 : Int32) then
    if inb (σ.1 1 6) 4 then
      some ((σ.1 1 6), (wI (wI σ 5 (Int32.toNatClampNeg (σ.1 1 6)) x1) 1 6 ((σ.1 1 6) + (1 : Int32))))
    else none
  else
    some ((-4 : Int32), σ)
def P_house (x1 : Int32) (σ : St) : Option (Int32 × St) :=
  Option.bind (P_isBelow x1 (1000001 : Int32) σ) fun r3 =>
  if r3 = true then
    Option.bind (Roll_addHouse x1 σ) fun q17 =>
    some (q17.1, q17.2)
  else
    some ((-2 : Int32), σ)
def Roll_hasBand (x1 : Int32) (σ : St) : Option Bool :=
  Option.bind (P_isBelow x1 (σ.1 1 5) σ) fun r5 =>
  some r5
def Roll_hasPlace (x1 : Int32) (σ : St) : Option Bool :=
  Option.bind (P_isBelow x1 (σ.1 1 4) σ) fun r5 =>
  some r5
def P_areDays (x0 : Int32) (x1 : Int32) (σ : St) : Option Bool :=
  if x0 < 0 then
    some false
  else
    if x1 < x0 then
      some false
    else
      if (10000 : Int32) ≤ x1 then
        some false
      else
        some true
def Spans_sharesDay_stays_L3 (x1 : Int32) (x2 : Int32) (x3 : Int32) (σ : St) : Nat → Int32 → Option Bool
  | 0, _ => none
  | n + 1, x4 =>
    if (σ.1 6 4) ≤ x4 then
      some false
    else
      if inb x4 40 then
        if (σ.1 7 (Int32.toNatClampNeg x4)) = x1 then
          if inb x4 40 then
            if x3 < (σ.1 9 (Int32.toNatClampNeg x4)) then
              Spans_sharesDay_stays_L3 x1 x2 x3 σ n (x4 + (1 : Int32))
            else
              if inb x4 40 then
                if (σ.1 10 (Int32.toNatClampNeg x4)) < x2 then
                  Spans_sharesDay_stays_L3 x1 x2 x3 σ n (x4 + (1 : Int32))
                else
                  some true
              else none
          else none
        else
          Spans_sharesDay_stays_L3 x1 x2 x3 σ n (x4 + (1 : Int32))
      else none
def Spans_sharesDay_stays (x1 : Int32) (x2 : Int32) (x3 : Int32) (σ : St) : Option Bool :=
  Spans_sharesDay_stays_L3 x1 x2 x3 σ FU (0 : Int32)
def Spans_add_stays (x1 : Int32) (x2 : Int32) (x3 : Int32) (x4 : Int32) (σ : St) : Option (Int32 × St) :=
  if (σ.1 6 4) < (40 : Int32) then
    if inb (σ.1 6 4) 40 then
      if inb (σ.1 6 4) 40 then
        if inb (σ.1 6 4) 40 then
          if inb (σ.1 6 4) 40 then
            some (((σ.1 6 4) + (1 : Int32)), (wI (wI (wI (wI (wI σ 7 (Int32.toNatClampNeg (σ.1 6 4)) x1) 8 (Int32.toNatClampNeg (σ.1 6 4)) x2) 9 (Int32.toNatClampNeg (σ.1 6 4)) x3) 10 (Int32.toNatClampNeg (σ.1 6 4)) x4) 6 4 ((σ.1 6 4) + (1 : Int32))))
          else none
        else none
      else none
    else none
  else
    some ((-4 : Int32), σ)
def P_walk (x1 : Int32) (x2 : Int32) (x3 : Int32) (x4 : Int32) (σ : St) : Option (Int32 × St) :=
  Option.bind (Roll_hasBand x1 σ) fun r5 =>
  if r5 = true then
    Option.bind (Roll_hasPlace x2 σ) fun r16 =>
    if r16 = true then
      Option.bind (P_areDays x3 x4 σ) fun r27 =>
      if r27 = true then
        Option.bind (Spans_sharesDay_stays x1 x3 x4 σ) fun r44 =>
        if r44 = true then
          some ((-3 : Int32), σ)
        else
          Option.bind (Spans_add_stays x1 x2 x3 x4 (wI σ 35 4 (0 : Int32))) fun q70 =>
          some (q70.1, q70.2)
      else
        some ((-2 : Int32), σ)
    else
      some ((-1 : Int32), σ)
  else
    some ((-1 : Int32), σ)
def Spans_covers_stays (x1 : Int32) (x2 : Int32) (σ : St) : Option Bool :=
  if inb x1 40 then
    if x2 < (σ.1 9 (Int32.toNatClampNeg x1)) then
      some false
    else
      if inb x1 40 then
        if (σ.1 10 (Int32.toNatClampNeg x1)) < x2 then
          some false
        else
          some true
      else none
  else none
def Spans_whatOn_stays_L2 (x1 : Int32) (x2 : Int32) (σ : St) : Nat → Int32 → Option Int32
  | 0, _ => none
  | n + 1, x3 =>
    if (σ.1 6 4) ≤ x3 then
      some (-9 : Int32)
    else
      if inb x3 40 then
        if (σ.1 7 (Int32.toNatClampNeg x3)) = x1 then
          Option.bind (Spans_covers_stays x3 x2 σ) fun r23 =>
          if r23 = true then
            if inb x3 40 then
              some (σ.1 8 (Int32.toNatClampNeg x3))
            else none
          else
            Spans_whatOn_stays_L2 x1 x2 σ n (x3 + (1 : Int32))
        else
          Spans_whatOn_stays_L2 x1 x2 σ n (x3 + (1 : Int32))
      else none
def Spans_whatOn_stays (x1 : Int32) (x2 : Int32) (σ : St) : Option Int32 :=
  Spans_whatOn_stays_L2 x1 x2 σ FU (0 : Int32)
def P_day (x1 : Int32) (x2 : Int32) (σ : St) : Option Int32 :=
  Option.bind (Roll_hasBand x1 σ) fun r5 =>
  if r5 = true then
    Option.bind (P_isBelow x2 (10000 : Int32) σ) fun r17 =>
    if r17 = true then
      Option.bind (Spans_whatOn_stays x1 x2 σ) fun r32 =>
      some r32
    else
      some (-2 : Int32)
  else
    some (-1 : Int32)
def Spans_firstBeside_stays_L7 (x1 : Int32) (x2 : Int32) (x3 : Int32) (σ : St) : Nat → Int32 → Int32 → Option Int32
  | 0, _, _ => none
  | n + 1, x4, x5 =>
    if (σ.1 6 4) ≤ x5 then
      some x4
    else
      if inb x5 40 then
        if (σ.1 7 (Int32.toNatClampNeg x5)) = x2 then
          if inb x5 40 then
            if inb x1 40 then
              if (σ.1 8 (Int32.toNatClampNeg x5)) = (σ.1 8 (Int32.toNatClampNeg x1)) then
                if inb x5 40 then
                  if inb x1 40 then
                    if (σ.1 10 (Int32.toNatClampNeg x1)) < (maI x3 (σ.1 9 (Int32.toNatClampNeg x5))) then
                      Spans_firstBeside_stays_L7 x1 x2 x3 σ n x4 (x5 + (1 : Int32))
                    else
                      if inb x5 40 then
                        if (σ.1 10 (Int32.toNatClampNeg x5)) < (maI x3 (σ.1 9 (Int32.toNatClampNeg x5))) then
                          Spans_firstBeside_stays_L7 x1 x2 x3 σ n x4 (x5 + (1 : Int32))
                        else
                          if x4 = (-9 : Int32) then
                            Spans_firstBeside_stays_L7 x1 x2 x3 σ n (maI x3 (σ.1 9 (Int32.toNatClampNeg x5))) (x5 + (1 : Int32))
                          else
                            if x4 ≤ (maI x3 (σ.1 9 (Int32.toNatClampNeg x5))) then
                              Spans_firstBeside_stays_L7 x1 x2 x3 σ n x4 (x5 + (1 : Int32))
                            else
                              Spans_firstBeside_stays_L7 x1 x2 x3 σ n (maI x3 (σ.1 9 (Int32.toNatClampNeg x5))) (x5 + (1 : Int32))
                      else none
                  else none
                else none
              else
                Spans_firstBeside_stays_L7 x1 x2 x3 σ n x4 (x5 + (1 : Int32))
            else none
          else none
        else
          Spans_firstBeside_stays_L7 x1 x2 x3 σ n x4 (x5 + (1 : Int32))
      else none
def Spans_firstBeside_stays (x1 : Int32) (x2 : Int32) (x3 : Int32) (σ : St) : Option Int32 :=
  Spans_firstBeside_stays_L7 x1 x2 x3 σ FU (-9 : Int32) (0 : Int32)
def Spans_firstTogether_stays_L7 (x1 : Int32) (x2 : Int32) (x3 : Int32) (σ : St) : Nat → Int32 → Int32 → Option Int32
  | 0, _, _ => none
  | n + 1, x4, x5 =>
    if (σ.1 6 4) ≤ x5 then
      some x4
    else
      if inb x5 40 then
        if (σ.1 7 (Int32.toNatClampNeg x5)) = x1 then
          if inb x5 40 then
            if x3 ≤ (σ.1 10 (Int32.toNatClampNeg x5)) then
              if inb x5 40 then
                Option.bind (Spans_firstBeside_stays x5 x2 (maI x3 (σ.1 9 (Int32.toNatClampNeg x5))) σ) fun r56 =>
                if r56 = (-9 : Int32) then
                  Spans_firstTogether_stays_L7 x1 x2 x3 σ n x4 (x5 + (1 : Int32))
                else
                  if x4 = (-9 : Int32) then
                    Spans_firstTogether_stays_L7 x1 x2 x3 σ n r56 (x5 + (1 : Int32))
                  else
                    if x4 ≤ r56 then
                      Spans_firstTogether_stays_L7 x1 x2 x3 σ n x4 (x5 + (1 : Int32))
                    else
                      Spans_firstTogether_stays_L7 x1 x2 x3 σ n r56 (x5 + (1 : Int32))
              else none
            else
              Spans_firstTogether_stays_L7 x1 x2 x3 σ n x4 (x5 + (1 : Int32))
          else none
        else
          Spans_firstTogether_stays_L7 x1 x2 x3 σ n x4 (x5 + (1 : Int32))
      else none
def Spans_firstTogether_stays (x1 : Int32) (x2 : Int32) (x3 : Int32) (σ : St) : Option Int32 :=
  Spans_firstTogether_stays_L7 x1 x2 x3 σ FU (-9 : Int32) (0 : Int32)
def P_meet (x1 : Int32) (x2 : Int32) (x3 : Int32) (σ : St) : Option Int32 :=
  Option.bind (Roll_hasBand x1 σ) fun r5 =>
  if r5 = true then
    Option.bind (Roll_hasBand x2 σ) fun r16 =>
    if r16 = true then
      Option.bind (P_isBelow x3 (10000 : Int32) σ) fun r28 =>
      if r28 = true then
        if x1 = x2 then
          some (-2 : Int32)
        else
          Option.bind (Spans_firstTogether_stays x1 x2 x3 σ) fun r49 =>
          some r49
      else
        some (-2 : Int32)
    else
      some (-1 : Int32)
  else
    some (-1 : Int32)
def Roll_hasHouse (x1 : Int32) (σ : St) : Option Bool :=
  Option.bind (P_isBelow x1 (σ.1 1 6) σ) fun r5 =>
  some r5
def Packs_add (x1 : Int32) (x2 : Int32) (x3 : Int32) (σ : St) : Option (Int32 × St) :=
  if (σ.1 21 3) < (12 : Int32) then
    if inb (σ.1 21 3) 12 then
      if inb (σ.1 21 3) 12 then
        if inb (σ.1 21 3) 12 then
          some ((σ.1 21 3), (wI (wI (wI (wI σ 22 (Int32.toNatClampNeg (σ.1 21 3)) x1) 23 (Int32.toNatClampNeg (σ.1 21 3)) x2) 24 (Int32.toNatClampNeg (σ.1 21 3)) x3) 21 3 ((σ.1 21 3) + (1 : Int32))))
        else none
      else none
    else none
  else
    some ((-4 : Int32), σ)
def P_pack (x1 : Int32) (x2 : Int32) (x3 : Int32) (σ : St) : Option (Int32 × St) :=
  Option.bind (Roll_hasBand x2 σ) fun r5 =>
  if r5 = true then
    Option.bind (Roll_hasHouse x3 σ) fun r16 =>
    if r16 = true then
      Option.bind (P_isBelow x1 (3 : Int32) σ) fun r26 =>
      if r26 = true then
        Option.bind (Packs_add x1 x2 x3 σ) fun q42 =>
        some (q42.1, q42.2)
      else
        some ((-2 : Int32), σ)
    else
      some ((-1 : Int32), σ)
  else
    some ((-1 : Int32), σ)
def Packs_has (x1 : Int32) (σ : St) : Option Bool :=
  Option.bind (P_isBelow x1 (σ.1 21 3) σ) fun r5 =>
  some r5
def Ledger_latestDay_L7 (x1 : Int32) (σ : St) : Nat → Int32 → Option Int32
  | 0, _ => none
  | n + 1, x2 =>
    if x2 < 0 then
      some (-9 : Int32)
    else
      if inb x2 60 then
        if (σ.1 29 (Int32.toNatClampNeg x2)) = x1 then
          if inb x2 60 then
            some (σ.1 34 (Int32.toNatClampNeg x2))
          else none
        else
          Ledger_latestDay_L7 x1 σ n (x2 + (-1 : Int32))
      else none
def Ledger_latestDay (x1 : Int32) (σ : St) : Option Int32 :=
  Ledger_latestDay_L7 x1 σ FU ((σ.1 28 6) - (1 : Int32))
def Ledger_change (x1 : Int32) (x2 : Int32) (x3 : Int32) (x4 : Int32) (σ : St) : Option Int32 :=
  if inb x1 60 then
    if (σ.1 29 (Int32.toNatClampNeg x1)) = x2 then
      if inb x1 60 then
        if (σ.1 31 (Int32.toNatClampNeg x1)) = x3 then
          if inb x1 60 then
            if (σ.1 34 (Int32.toNatClampNeg x1)) ≤ x4 then
              if inb x1 60 then
                if (2 : Int32) ≤ (σ.1 30 (Int32.toNatClampNeg x1)) then
                  if inb x1 60 then
                    some (-(σ.1 32 (Int32.toNatClampNeg x1)))
                  else none
                else
                  if inb x1 60 then
                    some (σ.1 32 (Int32.toNatClampNeg x1))
                  else none
              else none
            else
              some (0 : Int32)
          else none
        else
          some (0 : Int32)
      else none
    else
      some (0 : Int32)
  else none
def Ledger_heldOn_L6 (x1 : Int32) (x2 : Int32) (x3 : Int32) (σ : St) : Nat → Int32 → Int32 → Option Int32
  | 0, _, _ => none
  | n + 1, x4, x5 =>
    if (σ.1 28 6) ≤ x5 then
      some x4
    else
      Option.bind (Ledger_change x5 x1 x2 x3 σ) fun r23 =>
      Ledger_heldOn_L6 x1 x2 x3 σ n (x4 + r23) (x5 + (1 : Int32))
def Ledger_heldOn (x1 : Int32) (x2 : Int32) (x3 : Int32) (σ : St) : Option Int32 :=
  Ledger_heldOn_L6 x1 x2 x3 σ FU (0 : Int32) (0 : Int32)
def Ledger_add (x1 : Int32) (x2 : Int32) (x3 : Int32) (x4 : Int32) (x5 : Int32) (x6 : Int32) (σ : St) : Option (Int32 × St) :=
  Option.bind (P_isBelow x2 (5 : Int32) σ) fun r2 =>
  if r2 = true then
    Option.bind (P_isBelow x3 (8 : Int32) σ) fun r11 =>
    if r11 = true then
      if x4 < (1 : Int32) then
        some ((-2 : Int32), σ)
      else
        if x4 ≤ (99 : Int32) then
          if (2 : Int32) < x2 then
            Option.bind (P_isBelow x6 (10000 : Int32) σ) fun r66 =>
            if r66 = true then
              Option.bind (Ledger_latestDay x1 σ) fun r79 =>
              if r79 ≤ x6 then
                if x2 < (2 : Int32) then
                  if (σ.1 28 6) < (60 : Int32) then
                    if inb (σ.1 28 6) 60 then
                      if inb (σ.1 28 6) 60 then
                        if inb (σ.1 28 6) 60 then
                          if inb (σ.1 28 6) 60 then
                            if inb (σ.1 28 6) 60 then
                              if inb (σ.1 28 6) 60 then
                                some ((σ.1 28 6), (wI (wI (wI (wI (wI (wI (wI σ 29 (Int32.toNatClampNeg (σ.1 28 6)) x1) 30 (Int32.toNatClampNeg (σ.1 28 6)) x2) 31 (Int32.toNatClampNeg (σ.1 28 6)) x3) 32 (Int32.toNatClampNeg (σ.1 28 6)) x4) 33 (Int32.toNatClampNeg (σ.1 28 6)) (0 : Int32)) 34 (Int32.toNatClampNeg (σ.1 28 6)) x6) 28 6 ((σ.1 28 6) + (1 : Int32))))
                              else none
                            else none
                          else none
                        else none
                      else none
                    else none
                  else
                    some ((-4 : Int32), σ)
                else
                  Option.bind (Ledger_heldOn x1 x3 (10000 : Int32) σ) fun r99 =>
                  if x4 ≤ r99 then
                    if (σ.1 28 6) < (60 : Int32) then
                      if inb (σ.1 28 6) 60 then
                        if inb (σ.1 28 6) 60 then
                          if inb (σ.1 28 6) 60 then
                            if inb (σ.1 28 6) 60 then
                              if inb (σ.1 28 6) 60 then
                                if inb (σ.1 28 6) 60 then
                                  some ((σ.1 28 6), (wI (wI (wI (wI (wI (wI (wI σ 29 (Int32.toNatClampNeg (σ.1 28 6)) x1) 30 (Int32.toNatClampNeg (σ.1 28 6)) x2) 31 (Int32.toNatClampNeg (σ.1 28 6)) x3) 32 (Int32.toNatClampNeg (σ.1 28 6)) x4) 33 (Int32.toNatClampNeg (σ.1 28 6)) (0 : Int32)) 34 (Int32.toNatClampNeg (σ.1 28 6)) x6) 28 6 ((σ.1 28 6) + (1 : Int32))))
                                else none
                              else none
                            else none
                          else none
                        else none
                      else none
                    else
                      some ((-4 : Int32), σ)
                  else
                    some ((-3 : Int32), σ)
              else
                some ((-3 : Int32), σ)
            else
              some ((-2 : Int32), σ)
          else
            Option.bind (P_isBelow x5 (1000 : Int32) σ) fun r55 =>
            if r55 = true then
              Option.bind (P_isBelow x6 (10000 : Int32) σ) fun r66 =>
              if r66 = true then
                Option.bind (Ledger_latestDay x1 σ) fun r79 =>
                if r79 ≤ x6 then
                  if x2 < (2 : Int32) then
                    if (σ.1 28 6) < (60 : Int32) then
                      if inb (σ.1 28 6) 60 then
                        if inb (σ.1 28 6) 60 then
                          if inb (σ.1 28 6) 60 then
                            if inb (σ.1 28 6) 60 then
                              if inb (σ.1 28 6) 60 then
                                if inb (σ.1 28 6) 60 then
                                  some ((σ.1 28 6), (wI (wI (wI (wI (wI (wI (wI σ 29 (Int32.toNatClampNeg (σ.1 28 6)) x1) 30 (Int32.toNatClampNeg (σ.1 28 6)) x2) 31 (Int32.toNatClampNeg (σ.1 28 6)) x3) 32 (Int32.toNatClampNeg (σ.1 28 6)) x4) 33 (Int32.toNatClampNeg (σ.1 28 6)) x5) 34 (Int32.toNatClampNeg (σ.1 28 6)) x6) 28 6 ((σ.1 28 6) + (1 : Int32))))
                                else none
                              else none
                            else none
                          else none
                        else none
                      else none
                    else
                      some ((-4 : Int32), σ)
                  else
                    Option.bind (Ledger_heldOn x1 x3 (10000 : Int32) σ) fun r99 =>
                    if x4 ≤ r99 then
                      if (σ.1 28 6) < (60 : Int32) then
                        if inb (σ.1 28 6) 60 then
                          if inb (σ.1 28 6) 60 then
                            if inb (σ.1 28 6) 60 then
                              if inb (σ.1 28 6) 60 then
                                if inb (σ.1 28 6) 60 then
                                  if inb (σ.1 28 6) 60 then
                                    some ((σ.1 28 6), (wI (wI (wI (wI (wI (wI (wI σ 29 (Int32.toNatClampNeg (σ.1 28 6)) x1) 30 (Int32.toNatClampNeg (σ.1 28 6)) x2) 31 (Int32.toNatClampNeg (σ.1 28 6)) x3) 32 (Int32.toNatClampNeg (σ.1 28 6)) x4) 33 (Int32.toNatClampNeg (σ.1 28 6)) x5) 34 (Int32.toNatClampNeg (σ.1 28 6)) x6) 28 6 ((σ.1 28 6) + (1 : Int32))))
                                  else none
                                else none
                              else none
                            else none
                          else none
                        else none
                      else
                        some ((-4 : Int32), σ)
                    else
                      some ((-3 : Int32), σ)
                else
                  some ((-3 : Int32), σ)
              else
                some ((-2 : Int32), σ)
            else
              some ((-2 : Int32), σ)
        else
          some ((-2 : Int32), σ)
    else
      some ((-2 : Int32), σ)
  else
    some ((-2 : Int32), σ)
def P_entry (x1 : Int32) (x2 : Int32) (x3 : Int32) (x4 : Int32) (x5 : Int32) (x6 : Int32) (σ : St) : Option (Int32 × St) :=
  Option.bind (Packs_has x1 σ) fun r5 =>
  if r5 = true then
    Option.bind (Ledger_add x1 x2 x3 x4 x5 x6 (wI σ 35 4 (0 : Int32))) fun q34 =>
    some (q34.1, q34.2)
  else
    some ((-1 : Int32), σ)
def Sheets_has (x1 : Int32) (σ : St) : Option Bool :=
  Option.bind (P_isBelow x1 (4 : Int32) σ) fun r2 =>
  some r2
def Sheets_isNothing (x1 : Int32) (σ : St) : Option Bool :=
  if inb x1 4 then
    if (σ.1 77 (Int32.toNatClampNeg x1)) = (-9 : Int32) then
      some true
    else
      some false
  else none
def Sheets_hasCells (x1 : Int32) (x2 : Int32) (x3 : Int64) (σ : St) : Option Bool :=
  if x2 < 0 then
    some false
  else
    if x3 < (0 : Int64) then
      some false
    else
      if inb x1 4 then
        if (Int32.toInt64 (σ.1 77 (Int32.toNatClampNeg x1))) < ((Int32.toInt64 x2) + x3) then
          some false
        else
          some true
      else none
def Sheets_takingFault (x1 : Int32) (x2 : Int32) (x3 : Int32) (x4 : Int64) (σ : St) : Option Int32 :=
  Option.bind (Sheets_isNothing x1 σ) fun r2 =>
  if r2 = true then
    some (1 : Int32)
  else
    if inb x1 4 then
      if (σ.1 76 (Int32.toNatClampNeg x1)) = x2 then
        if x4 < (0 : Int64) then
          some (4 : Int32)
        else
          Option.bind (Sheets_hasCells x1 x3 x4 σ) fun r36 =>
          if r36 = true then
            some (0 : Int32)
          else
            some (3 : Int32)
      else
        some (2 : Int32)
    else none
def Ledger_countOf_L4 (x1 : Int32) (σ : St) : Nat → Int32 → Int32 → Option Int32
  | 0, _, _ => none
  | n + 1, x2, x3 =>
    if (σ.1 28 6) ≤ x3 then
      some x2
    else
      if inb x3 60 then
        if (σ.1 29 (Int32.toNatClampNeg x3)) = x1 then
          Ledger_countOf_L4 x1 σ n (x2 + (1 : Int32)) (x3 + (1 : Int32))
        else
          Ledger_countOf_L4 x1 σ n x2 (x3 + (1 : Int32))
      else none
def Ledger_countOf (x1 : Int32) (σ : St) : Option Int32 :=
  Ledger_countOf_L4 x1 σ FU (0 : Int32) (0 : Int32)
def Sheets_valueAt (x1 : Int32) (x2 : Int32) (σ : St) : Option Int32 :=
  if inb ((x1 * (60 : Int32)) + x2) 240 then
    some (σ.1 75 (Int32.toNatClampNeg ((x1 * (60 : Int32)) + x2)))
  else none
def P_enterRows_L20 (x1 : Int32) (x2 : Int32) (x3 : Int32) (x4 : Int32) (x5 : Int32) : Nat → Int32 → St → Option (Int32 × St)
  | 0, _, _ => none
  | n + 1, x6, σ =>
    if x4 ≤ x6 then
      Option.bind (Ledger_countOf x1 σ) fun r120 =>
      some (r120, σ)
    else
      Option.bind (Sheets_valueAt x2 (x3 + ((4 : Int32) * x6)) σ) fun r47 =>
      Option.bind (Sheets_valueAt x2 ((x3 + ((4 : Int32) * x6)) + (1 : Int32)) σ) fun r59 =>
      Option.bind (Sheets_valueAt x2 ((x3 + ((4 : Int32) * x6)) + (2 : Int32)) σ) fun r71 =>
      Option.bind (Sheets_valueAt x2 ((x3 + ((4 : Int32) * x6)) + (3 : Int32)) σ) fun r84 =>
      Option.bind (Ledger_add x1 r47 r59 r71 (1 : Int32) r84 σ) fun q87 =>
      if 0 ≤ q87.1 then
        P_enterRows_L20 x1 x2 x3 x4 x5 n (x6 + (1 : Int32)) q87.2
      else
        some (q87.1, (wI q87.2 28 6 x5))
def P_enterRows (x1 : Int32) (x2 : Int32) (x3 : Int32) (x4 : Int32) (σ : St) : Option (Int32 × St) :=
  P_enterRows_L20 x1 x2 x3 x4 (σ.1 28 6) FU (0 : Int32) (wI σ 35 4 (0 : Int32))
def P_faulted (x1 : Int32) (σ : St) : Option (Int32 × St) :=
  some (((-10 : Int32) - x1), (wI σ 0 13 x1))
def P_entries (x1 : Int32) (x2 : Int32) (x3 : Int32) (x4 : Int32) (x5 : Int32) (σ : St) : Option (Int32 × St) :=
  Option.bind (Packs_has x1 (wI σ 0 13 (0 : Int32))) fun r10 =>
  if r10 = true then
    Option.bind (Sheets_has x2 (wI σ 0 13 (0 : Int32))) fun r21 =>
    if r21 = true then
      Option.bind (P_isBelow x3 (3 : Int32) (wI σ 0 13 (0 : Int32))) fun r31 =>
      if r31 = true then
        Option.bind (Sheets_takingFault x2 x3 x4 ((4 : Int64) * (Int32.toInt64 x5)) (wI σ 0 13 (0 : Int32))) fun r55 =>
        if r55 = 0 then
          Option.bind (P_enterRows x1 x2 x4 x5 (wI σ 0 13 (0 : Int32))) fun q79 =>
          some (q79.1, q79.2)
        else
          Option.bind (P_faulted r55 (wI σ 0 13 (0 : Int32))) fun q68 =>
          some (q68.1, q68.2)
      else
        some ((-2 : Int32), (wI σ 0 13 (0 : Int32)))
    else
      some ((-1 : Int32), (wI σ 0 13 (0 : Int32)))
  else
    some ((-1 : Int32), (wI σ 0 13 (0 : Int32)))
def P_told (x1 : Int32) (x2 : Int32) (σ : St) : Option Int32 :=
  Option.bind (P_isBelow x1 (σ.1 28 6) σ) fun r8 =>
  if r8 = true then
    if x2 = (0 : Int32) then
      if inb x1 60 then
        some (σ.1 29 (Int32.toNatClampNeg x1))
      else none
    else
      if x2 = (1 : Int32) then
        if inb x1 60 then
          some (σ.1 30 (Int32.toNatClampNeg x1))
        else none
      else
        if x2 = (2 : Int32) then
          if inb x1 60 then
            some (σ.1 31 (Int32.toNatClampNeg x1))
          else none
        else
          if x2 = (3 : Int32) then
            if inb x1 60 then
              some (σ.1 32 (Int32.toNatClampNeg x1))
            else none
          else
            if x2 = (4 : Int32) then
              if inb x1 60 then
                some (σ.1 33 (Int32.toNatClampNeg x1))
              else none
            else
              if x2 = (5 : Int32) then
                if inb x1 60 then
                  some (σ.1 34 (Int32.toNatClampNeg x1))
                else none
              else
                some (-2 : Int32)
  else
    some (-1 : Int32)
def P_held (x1 : Int32) (x2 : Int32) (x3 : Int32) (σ : St) : Option Int32 :=
  Option.bind (Packs_has x1 σ) fun r5 =>
  if r5 = true then
    Option.bind (P_isBelow x2 (8 : Int32) σ) fun r16 =>
    if r16 = true then
      Option.bind (P_isBelow x3 (10000 : Int32) σ) fun r26 =>
      if r26 = true then
        Option.bind (Ledger_heldOn x1 x2 x3 σ) fun r42 =>
        some r42
      else
        some (-2 : Int32)
    else
      some (-2 : Int32)
  else
    some (-1 : Int32)
def P_isKnower (x1 : Int32) (σ : St) : Option Bool :=
  if x1 = (-1 : Int32) then
    some true
  else
    Option.bind (Roll_hasBand x1 σ) fun r10 =>
    if r10 = true then
      some true
    else
      some false
def News_forget_L27  : Nat → Int32 → St → Option St
  | 0, _, _ => none
  | n + 1, x1, σ =>
    if (7 : Int32) ≤ x1 then
      some σ
    else
      if inb x1 7 then
        if inb x1 7 then
          News_forget_L27 n (x1 + (1 : Int32)) (wL (wL σ 37 (Int32.toNatClampNeg x1) (0 : Int64)) 38 (Int32.toNatClampNeg x1) (0 : Int64))
        else none
      else none
def News_forget_L2  : Nat → Int32 → St → Option St
  | 0, _, _ => none
  | n + 1, x1, σ =>
    if (420 : Int32) ≤ x1 then
      News_forget_L27 FU (0 : Int32) σ
    else
      if inb x1 420 then
        News_forget_L2 n (x1 + (1 : Int32)) (wI σ 36 (Int32.toNatClampNeg x1) (-9 : Int32))
      else none
def News_forget  (σ : St) : Option St :=
  News_forget_L2 FU (0 : Int32) σ
def News_nextDay_L55 (x0 : Int32) (σ : St) : Nat → Int32 → Int32 → Option Int32
  | 0, _, _ => none
  | n + 1, x3, x4 =>
    if (σ.1 28 6) ≤ x4 then
      some x3
    else
      if inb x4 60 then
        if (σ.1 34 (Int32.toNatClampNeg x4)) ≤ x0 then
          News_nextDay_L55 x0 σ n x3 (x4 + (1 : Int32))
        else
          if inb x4 60 then
            if x3 ≤ (σ.1 34 (Int32.toNatClampNeg x4)) then
              News_nextDay_L55 x0 σ n x3 (x4 + (1 : Int32))
            else
              if inb x4 60 then
                News_nextDay_L55 x0 σ n (σ.1 34 (Int32.toNatClampNeg x4)) (x4 + (1 : Int32))
              else none
          else none
      else none
def News_nextDay_L7 (x0 : Int32) (σ : St) : Nat → Int32 → Int32 → Option Int32
  | 0, _, _ => none
  | n + 1, x3, x4 =>
    if (σ.1 6 4) ≤ x4 then
      News_nextDay_L55 x0 σ FU x3 (0 : Int32)
    else
      if inb x4 40 then
        if (σ.1 9 (Int32.toNatClampNeg x4)) ≤ x0 then
          News_nextDay_L7 x0 σ n x3 (x4 + (1 : Int32))
        else
          if inb x4 40 then
            if x3 ≤ (σ.1 9 (Int32.toNatClampNeg x4)) then
              News_nextDay_L7 x0 σ n x3 (x4 + (1 : Int32))
            else
              if inb x4 40 then
                News_nextDay_L7 x0 σ n (σ.1 9 (Int32.toNatClampNeg x4)) (x4 + (1 : Int32))
              else none
          else none
      else none
def News_nextDay (x0 : Int32) (σ : St) : Option Int32 :=
  News_nextDay_L7 x0 σ FU (10000 : Int32) (0 : Int32)
def News_hearOwn_L3 (x1 : Int32) : Nat → Int32 → St → Option St
  | 0, _, _ => none
  | n + 1, x4, σ =>
    if (σ.1 28 6) ≤ x4 then
      some σ
    else
      if inb x4 60 then
        if inb x4 60 then
          if (σ.1 34 (Int32.toNatClampNeg x4)) = x1 then
            Option.bind (Packs_has (σ.1 29 (Int32.toNatClampNeg x4)) σ) fun r35 =>
            if r35 = true then
              if inb (σ.1 29 (Int32.toNatClampNeg x4)) 12 then
                if inb (σ.1 23 (Int32.toNatClampNeg (σ.1 29 (Int32.toNatClampNeg x4)))) 7 then
                  if inb (σ.1 23 (Int32.toNatClampNeg (σ.1 29 (Int32.toNatClampNeg x4)))) 7 then
                    News_hearOwn_L3 x1 n (x4 + (1 : Int32)) (wL σ 37 (Int32.toNatClampNeg (σ.1 23 (Int32.toNatClampNeg (σ.1 29 (Int32.toNatClampNeg x4))))) ((σ.2 37 (Int32.toNatClampNeg (σ.1 23 (Int32.toNatClampNeg (σ.1 29 (Int32.toNatClampNeg x4)))))) ||| ((1 : Int64) <<< (Int32.toInt64 x4 &&& 63))))
                  else none
                else none
              else none
            else
              News_hearOwn_L3 x1 n (x4 + (1 : Int32)) σ
          else
            News_hearOwn_L3 x1 n (x4 + (1 : Int32)) σ
        else none
      else none
def News_hearOwn (x1 : Int32) (σ : St) : Option St :=
  News_hearOwn_L3 x1 FU (0 : Int32) σ
def News_stand_L32 (x1 : Int32) : Nat → Int32 → St → Option St
  | 0, _, _ => none
  | n + 1, x3, σ =>
    if (σ.1 6 4) ≤ x3 then
      some σ
    else
      Option.bind (Spans_covers_stays x3 x1 σ) fun r43 =>
      if r43 = true then
        if inb x3 40 then
          if inb x3 40 then
            if inb (σ.1 7 (Int32.toNatClampNeg x3)) 7 then
              News_stand_L32 x1 n (x3 + (1 : Int32)) (wI σ 39 (Int32.toNatClampNeg (σ.1 7 (Int32.toNatClampNeg x3))) (σ.1 8 (Int32.toNatClampNeg x3)))
            else none
          else none
        else none
      else
        News_stand_L32 x1 n (x3 + (1 : Int32)) σ
def News_stand_L2 (x1 : Int32) : Nat → Int32 → St → Option St
  | 0, _, _ => none
  | n + 1, x3, σ =>
    if (6 : Int32) ≤ x3 then
      if inb (6 : Int32) 7 then
        News_stand_L32 x1 FU (0 : Int32) (wI σ 39 (Int32.toNatClampNeg (6 : Int32)) (0 : Int32))
      else none
    else
      if inb x3 7 then
        News_stand_L2 x1 n (x3 + (1 : Int32)) (wI σ 39 (Int32.toNatClampNeg x3) (-9 : Int32))
      else none
def News_stand (x1 : Int32) (σ : St) : Option St :=
  News_stand_L2 x1 FU (0 : Int32) σ
def News_speak_L35 (x1 : Int32) (k2 : Int32 → St → Option St) : Nat → Int32 → St → Option St
  | 0, _, _ => none
  | n + 1, x2, σ =>
    if (7 : Int32) ≤ x2 then
      k2 (x1 + (1 : Int32)) σ
    else
      if inb x2 7 then
        if inb x1 7 then
          if (σ.1 39 (Int32.toNatClampNeg x2)) = (σ.1 39 (Int32.toNatClampNeg x1)) then
            if inb x2 7 then
              if inb x1 7 then
                if inb x2 7 then
                  News_speak_L35 x1 k2 n (x2 + (1 : Int32)) (wL σ 37 (Int32.toNatClampNeg x2) ((σ.2 37 (Int32.toNatClampNeg x2)) ||| (σ.2 37 (Int32.toNatClampNeg x1))))
                else none
              else none
            else none
          else
            News_speak_L35 x1 k2 n (x2 + (1 : Int32)) σ
        else none
      else none
def News_speak_L2  : Nat → Int32 → St → Option St
  | 0, _, _ => none
  | n + 1, x1, σ =>
    if (7 : Int32) ≤ x1 then
      some σ
    else
      if inb x1 7 then
        if (σ.1 39 (Int32.toNatClampNeg x1)) = (-9 : Int32) then
          News_speak_L2 n (x1 + (1 : Int32)) σ
        else
          if inb x1 7 then
            if (σ.2 37 (Int32.toNatClampNeg x1)) = (0 : Int64) then
              News_speak_L2 n (x1 + (1 : Int32)) σ
            else
              News_speak_L35 x1 (fun y1 τ => News_speak_L2 n y1 τ) FU (0 : Int32) σ
          else none
      else none
def News_speak  (σ : St) : Option St :=
  News_speak_L2 FU (0 : Int32) σ
def News_note_L30 (x1 : Int32) (x2 : Int32) (x3 : Int32) (x4 : Int64) : Nat → Int32 → St → Option St
  | 0, _, _ => none
  | n + 1, x6, σ =>
    if x3 ≤ x6 then
      if inb x1 7 then
        if inb x1 7 then
          some (wL σ 38 (Int32.toNatClampNeg x1) (σ.2 37 (Int32.toNatClampNeg x1)))
        else none
      else none
    else
      if ((x4 >>> (Int32.toInt64 x6 &&& 63)) &&& (1 : Int64)) = (0 : Int64) then
        News_note_L30 x1 x2 x3 x4 n (x6 + (1 : Int32)) σ
      else
        if inb ((x6 * (7 : Int32)) + x1) 420 then
          News_note_L30 x1 x2 x3 x4 n (x6 + (1 : Int32)) (wI σ 36 (Int32.toNatClampNeg ((x6 * (7 : Int32)) + x1)) x2)
        else none
def News_note (x1 : Int32) (x2 : Int32) (x3 : Int32) (σ : St) : Option St :=
  if inb x1 7 then
    if inb x1 7 then
      if ((σ.2 37 (Int32.toNatClampNeg x1)) &&& ((σ.2 38 (Int32.toNatClampNeg x1)) ^^^ (-1 : Int64))) = (0 : Int64) then
        some σ
      else
        News_note_L30 x1 x2 x3 ((σ.2 37 (Int32.toNatClampNeg x1)) &&& ((σ.2 38 (Int32.toNatClampNeg x1)) ^^^ (-1 : Int64))) FU (0 : Int32) σ
    else none
  else none
def News_learn_L71 (x4 : Int32) (x5 : Int32) (x6 : Int32) (k34 : Int32 → Int32 → St → Option St) : Nat → Int32 → St → Option St
  | 0, _, _ => none
  | n + 1, x7, σ =>
    if (7 : Int32) ≤ x7 then
      Option.bind (News_nextDay x5 σ) fun r100 =>
      k34 r100 (x6 + (1 : Int32)) σ
    else
      Option.bind (News_note x7 x5 (σ.1 28 6) σ) fun q87 =>
      News_learn_L71 x4 x5 x6 k34 n (x7 + (1 : Int32)) q87
def News_learn_L34 (x4 : Int32) : Nat → Int32 → Int32 → St → Option St
  | 0, _, _, _ => none
  | n + 1, x5, x6, σ =>
    if x4 ≤ x6 then
      some (wI σ 35 4 (1 : Int32))
    else
      if (10000 : Int32) ≤ x5 then
        some (wI σ 35 4 (1 : Int32))
      else
        Option.bind (News_hearOwn x5 σ) fun q54 =>
        Option.bind (News_stand x5 q54) fun q61 =>
        Option.bind (News_speak q61) fun q65 =>
        News_learn_L71 x4 x5 x6 (fun y5 y6 τ => News_learn_L34 x4 n y5 y6 τ) FU (0 : Int32) q65
def News_learn  (σ : St) : Option St :=
  if (σ.1 35 4) = 0 then
    Option.bind (News_forget σ) fun q9 =>
    Option.bind (News_nextDay (-1 : Int32) q9) fun r26 =>
    News_learn_L34 ((q9.1 6 4) + (q9.1 28 6)) FU r26 (0 : Int32) q9
  else
    some σ
def P_knower (x0 : Int32) (σ : St) : Option Int32 :=
  if x0 = (-1 : Int32) then
    some (6 : Int32)
  else
    some x0
def News_firstDay (x1 : Int32) (x2 : Int32) (σ : St) : Option Int32 :=
  if inb ((x1 * (7 : Int32)) + x2) 420 then
    some (σ.1 36 (Int32.toNatClampNeg ((x1 * (7 : Int32)) + x2)))
  else none
def P_known (x1 : Int32) (x2 : Int32) (σ : St) : Option (Int32 × St) :=
  Option.bind (P_isBelow x1 (σ.1 28 6) σ) fun r8 =>
  if r8 = true then
    Option.bind (P_isKnower x2 σ) fun r16 =>
    if r16 = true then
      Option.bind (News_learn σ) fun q40 =>
      Option.bind (P_knower x2 q40) fun r49 =>
      Option.bind (News_firstDay x1 r49 q40) fun r52 =>
      some (r52, q40)
    else
      some ((-1 : Int32), σ)
  else
    some ((-1 : Int32), σ)
def News_isKnownOn (x1 : Int32) (x2 : Int32) (x3 : Int32) (σ : St) : Option Bool :=
  Option.bind (News_firstDay x1 x2 σ) fun r3 =>
  if r3 = (-9 : Int32) then
    some false
  else
    if x3 < r3 then
      some false
    else
      some true
def P_as_L71 (x1 : Int32) (x2 : Int32) (x3 : Int32) (x4 : Int32) (σ : St) : Nat → Int32 → Int32 → Option (Int32 × St)
  | 0, _, _ => none
  | n + 1, x5, x6 =>
    if (σ.1 28 6) ≤ x6 then
      some (x5, σ)
    else
      Option.bind (News_isKnownOn x6 (6 : Int32) x4 σ) fun r93 =>
      if r93 = true then
        Option.bind (Ledger_change x6 x1 x2 x3 σ) fun r110 =>
        P_as_L71 x1 x2 x3 x4 σ n (x5 + r110) (x6 + (1 : Int32))
      else
        P_as_L71 x1 x2 x3 x4 σ n x5 (x6 + (1 : Int32))
def P_as (x1 : Int32) (x2 : Int32) (x3 : Int32) (x4 : Int32) (σ : St) : Option (Int32 × St) :=
  Option.bind (Packs_has x1 σ) fun r5 =>
  if r5 = true then
    Option.bind (P_isBelow x2 (8 : Int32) σ) fun r16 =>
    if r16 = true then
      Option.bind (P_isBelow x3 (10000 : Int32) σ) fun r26 =>
      if r26 = true then
        Option.bind (P_isBelow x4 (10000 : Int32) σ) fun r37 =>
        if r37 = true then
          Option.bind (News_learn σ) fun q62 =>
          P_as_L71 x1 x2 x3 x4 q62 FU (0 : Int32) (0 : Int32)
        else
          some ((-2 : Int32), σ)
      else
        some ((-2 : Int32), σ)
    else
      some ((-2 : Int32), σ)
  else
    some ((-1 : Int32), σ)
def P_knows_L47 (x1 : Int32) (x2 : Int32) (σ : St) : Nat → Int32 → Int32 → Option (Int32 × St)
  | 0, _, _ => none
  | n + 1, x3, x4 =>
    if (σ.1 28 6) ≤ x4 then
      some (x3, σ)
    else
      Option.bind (P_knower x1 σ) fun r66 =>
      Option.bind (News_isKnownOn x4 r66 x2 σ) fun r70 =>
      if r70 = true then
        P_knows_L47 x1 x2 σ n (x3 + (1 : Int32)) (x4 + (1 : Int32))
      else
        P_knows_L47 x1 x2 σ n x3 (x4 + (1 : Int32))
def P_knows (x1 : Int32) (x2 : Int32) (σ : St) : Option (Int32 × St) :=
  Option.bind (P_isKnower x1 σ) fun r2 =>
  if r2 = true then
    Option.bind (P_isBelow x2 (10000 : Int32) σ) fun r14 =>
    if r14 = true then
      Option.bind (News_learn σ) fun q39 =>
      P_knows_L47 x1 x2 q39 FU (0 : Int32) (0 : Int32)
    else
      some ((-2 : Int32), σ)
  else
    some ((-1 : Int32), σ)
def Texts_digitsFrom_L10 (x1 : Int32) (x2 : Int32) (x4 : Int32) (σ : St) : Nat → Int32 → Option Int32
  | 0, _ => none
  | n + 1, x5 =>
    if x4 ≤ x5 then
      some x4
    else
      Option.bind (Sheets_valueAt x1 (x2 + x5) σ) fun r23 =>
      if r23 < (48 : Int32) then
        some x5
      else
        if r23 ≤ (57 : Int32) then
          Texts_digitsFrom_L10 x1 x2 x4 σ n (x5 + (1 : Int32))
        else
          some x5
def Texts_digitsFrom (x1 : Int32) (x2 : Int32) (x3 : Int32) (σ : St) : Option Int32 :=
  Texts_digitsFrom_L10 x1 x2 (miI (4 : Int32) x3) σ FU (0 : Int32)
def Texts_numberOf_L6 (x1 : Int32) (x2 : Int32) (x3 : Int32) (σ : St) : Nat → Int32 → Int32 → Option Int32
  | 0, _, _ => none
  | n + 1, x4, x5 =>
    if x3 ≤ x5 then
      some x4
    else
      Option.bind (Sheets_valueAt x1 (x2 + x5) σ) fun r23 =>
      Texts_numberOf_L6 x1 x2 x3 σ n ((((10 : Int32) * x4) + r23) - (48 : Int32)) (x5 + (1 : Int32))
def Texts_numberOf (x1 : Int32) (x2 : Int32) (x3 : Int32) (σ : St) : Option Int32 :=
  Texts_numberOf_L6 x1 x2 x3 σ FU (0 : Int32) (0 : Int32)
def Texts_addRead (x1 : Int32) (x2 : Int32) (σ : St) : Option St :=
  if (σ.1 40 9) < (6 : Int32) then
    if x1 < (4 : Int32) then
      if inb (σ.1 40 9) 6 then
        if inb (σ.1 40 9) 6 then
          some (wI (wI (wI σ 47 (Int32.toNatClampNeg (σ.1 40 9)) x1) 48 (Int32.toNatClampNeg (σ.1 40 9)) x2) 40 9 ((σ.1 40 9) + (1 : Int32)))
        else none
      else none
    else
      if inb (σ.1 40 9) 6 then
        if inb (σ.1 40 9) 6 then
          some (wI (wI (wI σ 47 (Int32.toNatClampNeg (σ.1 40 9)) ((4 : Int32) + x2)) 48 (Int32.toNatClampNeg (σ.1 40 9)) (x1 - (4 : Int32))) 40 9 ((σ.1 40 9) + (1 : Int32)))
        else none
      else none
  else
    some σ
def Texts_letterOf_L2 (x0 : Int32) (σ : St) : Nat → Int32 → Option Int32
  | 0, _ => none
  | n + 1, x1 =>
    if (7 : Int32) ≤ x1 then
      some (-9 : Int32)
    else
      if inb x1 7 then
        if (stf_0 (Int32.toNatClampNeg x1)) = x0 then
          some x1
        else
          Texts_letterOf_L2 x0 σ n (x1 + (1 : Int32))
      else none
def Texts_letterOf (x0 : Int32) (σ : St) : Option Int32 :=
  Texts_letterOf_L2 x0 σ FU (0 : Int32)
def Texts_read_L11 (x2 : Int32) (x3 : Int32) (x4 : Int32) : Nat → Int32 → Int32 → St → Option (Int32 × St)
  | 0, _, _, _ => none
  | n + 1, x5, x6, σ =>
    if (6 : Int32) < x6 then
      some (x5, σ)
    else
      if x4 ≤ x5 then
        if (-9 : Int32) = (-9 : Int32) then
          some (x5, σ)
        else
          Option.bind (Texts_digitsFrom x2 (x3 + (x5 + (1 : Int32))) (x4 - (x5 + (1 : Int32))) σ) fun r68 =>
          Option.bind (Texts_numberOf x2 (x3 + (x5 + (1 : Int32))) r68 σ) fun r81 =>
          if r68 = 0 then
            some ((x5 + (1 : Int32)), σ)
          else
            if inb (-9 : Int32) 7 then
              if r81 < (stf_1 (Int32.toNatClampNeg (-9 : Int32))) then
                some ((x5 + (1 : Int32)), σ)
              else
                if inb (-9 : Int32) 7 then
                  if r81 ≤ (stf_2 (Int32.toNatClampNeg (-9 : Int32))) then
                    Option.bind (Texts_addRead (-9 : Int32) r81 σ) fun q121 =>
                    if ((x5 + (1 : Int32)) + r68) < x4 then
                      Option.bind (Sheets_valueAt x2 (x3 + ((x5 + (1 : Int32)) + r68)) q121) fun r147 =>
                      if r147 = (59 : Int32) then
                        if x6 = (6 : Int32) then
                          some (((x5 + (1 : Int32)) + r68), q121)
                        else
                          Texts_read_L11 x2 x3 x4 n (((x5 + (1 : Int32)) + r68) + (1 : Int32)) (x6 + (1 : Int32)) q121
                      else
                        some (((x5 + (1 : Int32)) + r68), q121)
                    else
                      some ((-9 : Int32), q121)
                  else
                    some ((x5 + (1 : Int32)), σ)
                else none
            else none
      else
        Option.bind (Sheets_valueAt x2 (x3 + x5) σ) fun r31 =>
        Option.bind (Texts_letterOf r31 σ) fun r34 =>
        if r34 = (-9 : Int32) then
          some (x5, σ)
        else
          Option.bind (Texts_digitsFrom x2 (x3 + (x5 + (1 : Int32))) (x4 - (x5 + (1 : Int32))) σ) fun r68 =>
          Option.bind (Texts_numberOf x2 (x3 + (x5 + (1 : Int32))) r68 σ) fun r81 =>
          if r68 = 0 then
            some ((x5 + (1 : Int32)), σ)
          else
            if inb r34 7 then
              if r81 < (stf_1 (Int32.toNatClampNeg r34)) then
                some ((x5 + (1 : Int32)), σ)
              else
                if inb r34 7 then
                  if r81 ≤ (stf_2 (Int32.toNatClampNeg r34)) then
                    Option.bind (Texts_addRead r34 r81 σ) fun q121 =>
                    if ((x5 + (1 : Int32)) + r68) < x4 then
                      Option.bind (Sheets_valueAt x2 (x3 + ((x5 + (1 : Int32)) + r68)) q121) fun r147 =>
                      if r147 = (59 : Int32) then
                        if x6 = (6 : Int32) then
                          some (((x5 + (1 : Int32)) + r68), q121)
                        else
                          Texts_read_L11 x2 x3 x4 n (((x5 + (1 : Int32)) + r68) + (1 : Int32)) (x6 + (1 : Int32)) q121
                      else
                        some (((x5 + (1 : Int32)) + r68), q121)
                    else
                      some ((-9 : Int32), q121)
                  else
                    some ((x5 + (1 : Int32)), σ)
                else none
            else none
def Texts_read (x2 : Int32) (x3 : Int32) (x4 : Int32) (σ : St) : Option (Int32 × St) :=
  Texts_read_L11 x2 x3 x4 FU (0 : Int32) (1 : Int32) (wI σ 40 9 (0 : Int32))
def Texts_keep_L61  : Nat → Int32 → St → Option (Int32 × St)
  | 0, _, _ => none
  | n + 1, x4, σ =>
    if (σ.1 40 9) ≤ x4 then
      some ((σ.1 40 6), (wI σ 40 6 ((σ.1 40 6) + (1 : Int32))))
    else
      if inb x4 6 then
        if inb (((σ.1 40 6) * (6 : Int32)) + x4) 60 then
          if inb x4 6 then
            if inb (((σ.1 40 6) * (6 : Int32)) + x4) 60 then
              Texts_keep_L61 n (x4 + (1 : Int32)) (wI (wI σ 45 (Int32.toNatClampNeg (((σ.1 40 6) * (6 : Int32)) + x4)) (σ.1 47 (Int32.toNatClampNeg x4))) 46 (Int32.toNatClampNeg (((σ.1 40 6) * (6 : Int32)) + x4)) (σ.1 48 (Int32.toNatClampNeg x4)))
            else none
          else none
        else none
      else none
def Texts_keep (x1 : Int32) (x2 : Int32) (x3 : Int32) (σ : St) : Option (Int32 × St) :=
  if (σ.1 40 6) < (10 : Int32) then
    if inb (σ.1 40 6) 10 then
      if inb (σ.1 40 6) 10 then
        if inb (σ.1 40 6) 10 then
          if inb (σ.1 40 6) 10 then
            Texts_keep_L61 FU (0 : Int32) (wI (wI (wI (wI σ 41 (Int32.toNatClampNeg (σ.1 40 6)) x1) 42 (Int32.toNatClampNeg (σ.1 40 6)) x2) 43 (Int32.toNatClampNeg (σ.1 40 6)) x3) 44 (Int32.toNatClampNeg (σ.1 40 6)) (σ.1 40 9))
          else none
        else none
      else none
    else none
  else
    some ((-4 : Int32), σ)
def P_text (x1 : Int32) (x2 : Int32) (x3 : Int32) (x4 : Int32) (x5 : Int32) (x6 : Int32) (x7 : Int32) (σ : St) : Option (Int32 × St) :=
  Option.bind (Sheets_has x4 (wI σ 0 13 (0 : Int32))) fun r11 =>
  if r11 = true then
    if x1 = (-1 : Int32) then
      Option.bind (P_areDays x2 x3 (wI σ 0 13 (0 : Int32))) fun r38 =>
      if r38 = true then
        Option.bind (P_isBelow x5 (3 : Int32) (wI σ 0 13 (0 : Int32))) fun r47 =>
        if r47 = true then
          Option.bind (Sheets_takingFault x4 x5 x6 (Int32.toInt64 x7) (wI σ 0 13 (0 : Int32))) fun r69 =>
          if r69 = 0 then
            Option.bind (Texts_read x4 x6 x7 (wI σ 0 13 (0 : Int32))) fun q100 =>
            if q100.1 = (-9 : Int32) then
              Option.bind (Texts_keep x1 x2 x3 q100.2) fun q125 =>
              some (q125.1, q125.2)
            else
              some (((-100 : Int32) - q100.1), q100.2)
          else
            Option.bind (P_faulted r69 (wI σ 0 13 (0 : Int32))) fun q82 =>
            some (q82.1, q82.2)
        else
          some ((-2 : Int32), (wI σ 0 13 (0 : Int32)))
      else
        some ((-2 : Int32), (wI σ 0 13 (0 : Int32)))
    else
      Option.bind (P_isBelow x1 (6 : Int32) (wI σ 0 13 (0 : Int32))) fun r27 =>
      if r27 = true then
        Option.bind (P_areDays x2 x3 (wI σ 0 13 (0 : Int32))) fun r38 =>
        if r38 = true then
          Option.bind (P_isBelow x5 (3 : Int32) (wI σ 0 13 (0 : Int32))) fun r47 =>
          if r47 = true then
            Option.bind (Sheets_takingFault x4 x5 x6 (Int32.toInt64 x7) (wI σ 0 13 (0 : Int32))) fun r69 =>
            if r69 = 0 then
              Option.bind (Texts_read x4 x6 x7 (wI σ 0 13 (0 : Int32))) fun q100 =>
              if q100.1 = (-9 : Int32) then
                Option.bind (Texts_keep x1 x2 x3 q100.2) fun q125 =>
                some (q125.1, q125.2)
              else
                some (((-100 : Int32) - q100.1), q100.2)
            else
              Option.bind (P_faulted r69 (wI σ 0 13 (0 : Int32))) fun q82 =>
              some (q82.1, q82.2)
          else
            some ((-2 : Int32), (wI σ 0 13 (0 : Int32)))
        else
          some ((-2 : Int32), (wI σ 0 13 (0 : Int32)))
      else
        some ((-2 : Int32), (wI σ 0 13 (0 : Int32)))
  else
    some ((-1 : Int32), (wI σ 0 13 (0 : Int32)))
def Texts_clauseBy_L60 (x1 : Int32) (x2 : Int32) (x3 : Int32) (x4 : Int32) (σ : St) (k8 : Int32 → Option Int32) : Nat → Int32 → Option Int32
  | 0, _ => none
  | n + 1, x5 =>
    if x5 < 0 then
      k8 (x4 + (-1 : Int32))
    else
      if inb ((x4 * (6 : Int32)) + x5) 60 then
        if (σ.1 45 (Int32.toNatClampNeg ((x4 * (6 : Int32)) + x5))) = x1 then
          some ((x4 * (6 : Int32)) + x5)
        else
          Texts_clauseBy_L60 x1 x2 x3 x4 σ k8 n (x5 + (-1 : Int32))
      else none
def Texts_clauseBy_L8 (x1 : Int32) (x2 : Int32) (x3 : Int32) (σ : St) : Nat → Int32 → Option Int32
  | 0, _ => none
  | n + 1, x4 =>
    if x4 < 0 then
      some (-9 : Int32)
    else
      if inb x4 10 then
        if (σ.1 41 (Int32.toNatClampNeg x4)) = x2 then
          if inb x4 10 then
            if x3 < (σ.1 42 (Int32.toNatClampNeg x4)) then
              Texts_clauseBy_L8 x1 x2 x3 σ n (x4 + (-1 : Int32))
            else
              if inb x4 10 then
                if x3 ≤ (σ.1 43 (Int32.toNatClampNeg x4)) then
                  if inb x4 10 then
                    Texts_clauseBy_L60 x1 x2 x3 x4 σ (fun y4 => Texts_clauseBy_L8 x1 x2 x3 σ n y4) FU ((σ.1 44 (Int32.toNatClampNeg x4)) - (1 : Int32))
                  else none
                else
                  Texts_clauseBy_L8 x1 x2 x3 σ n (x4 + (-1 : Int32))
              else none
          else none
        else
          Texts_clauseBy_L8 x1 x2 x3 σ n (x4 + (-1 : Int32))
      else none
def Texts_clauseBy (x1 : Int32) (x2 : Int32) (x3 : Int32) (σ : St) : Option Int32 :=
  Texts_clauseBy_L8 x1 x2 x3 σ FU ((σ.1 40 6) - (1 : Int32))
def Texts_clauseIn (x1 : Int32) (x2 : Int32) (x3 : Int32) (σ : St) : Option Int32 :=
  Option.bind (Texts_clauseBy x1 x2 x3 σ) fun r4 =>
  if r4 = (-9 : Int32) then
    Option.bind (Texts_clauseBy x1 (-1 : Int32) x3 σ) fun r25 =>
    some r25
  else
    some r4
def Texts_valueIn (x1 : Int32) (x2 : Int32) (x3 : Int32) (σ : St) : Option Int32 :=
  Option.bind (Texts_clauseIn x1 x2 x3 σ) fun r4 =>
  if r4 = (-9 : Int32) then
    if x1 = 0 then
      some (4 : Int32)
    else
      some (0 : Int32)
  else
    if inb r4 60 then
      some (σ.1 46 (Int32.toNatClampNeg r4))
    else none
def P_force (x1 : Int32) (x2 : Int32) (x3 : Int32) (σ : St) : Option Int32 :=
  Option.bind (P_isBelow x1 (4 : Int32) σ) fun r2 =>
  if r2 = true then
    Option.bind (P_isBelow x2 (6 : Int32) σ) fun r11 =>
    if r11 = true then
      Option.bind (P_isBelow x3 (10000 : Int32) σ) fun r21 =>
      if r21 = true then
        Option.bind (Texts_valueIn x1 x2 x3 σ) fun r37 =>
        some r37
      else
        some (-2 : Int32)
    else
      some (-2 : Int32)
  else
    some (-2 : Int32)
def P_bar (x1 : Int32) (x2 : Int32) (x3 : Int32) (σ : St) : Option Int32 :=
  Option.bind (P_isBelow x1 (8 : Int32) σ) fun r3 =>
  if r3 = true then
    Option.bind (P_isBelow x2 (6 : Int32) σ) fun r12 =>
    if r12 = true then
      Option.bind (P_isBelow x3 (10000 : Int32) σ) fun r22 =>
      if r22 = true then
        Option.bind (Texts_valueIn ((4 : Int32) + x1) x2 x3 σ) fun r40 =>
        some r40
      else
        some (-2 : Int32)
    else
      some (-2 : Int32)
  else
    some (-2 : Int32)
def P_subjectOf (x0 : Int32) (x1 : Int32) (σ : St) : Option Int32 :=
  Option.bind (P_isBelow x0 (4 : Int32) σ) fun r2 =>
  if r2 = true then
    some x0
  else
    if x0 = (4 : Int32) then
      Option.bind (P_isBelow x1 (8 : Int32) σ) fun r18 =>
      if r18 = true then
        some ((4 : Int32) + x1)
      else
        some (-9 : Int32)
    else
      some (-9 : Int32)
def Texts_textOf (x1 : Int32) (σ : St) : Option Int32 :=
  if x1 = (-9 : Int32) then
    some (-9 : Int32)
  else
    some (x1 / (6 : Int32))
def P_why (x1 : Int32) (x2 : Int32) (x3 : Int32) (x4 : Int32) (σ : St) : Option Int32 :=
  Option.bind (P_subjectOf x1 x2 σ) fun r2 =>
  if r2 = (-9 : Int32) then
    some (-2 : Int32)
  else
    Option.bind (P_isBelow x3 (6 : Int32) σ) fun r17 =>
    if r17 = true then
      Option.bind (P_isBelow x4 (10000 : Int32) σ) fun r28 =>
      if r28 = true then
        Option.bind (Texts_clauseIn r2 x3 x4 σ) fun r50 =>
        Option.bind (Texts_textOf r50 σ) fun r53 =>
        some r53
      else
        some (-2 : Int32)
    else
      some (-2 : Int32)
def Texts_doQuarrel (x1 : Int32) (x2 : Int32) (x3 : Int32) (σ : St) : Option Bool :=
  Option.bind (Texts_clauseBy x1 x2 x3 σ) fun r4 =>
  Option.bind (Texts_clauseBy x1 (-1 : Int32) x3 σ) fun r13 =>
  if r4 = (-9 : Int32) then
    some false
  else
    if r13 = (-9 : Int32) then
      some false
    else
      if inb r4 60 then
        if inb r13 60 then
          if (σ.1 46 (Int32.toNatClampNeg r4)) = (σ.1 46 (Int32.toNatClampNeg r13)) then
            some false
          else
            some true
        else none
      else none
def P_quarrel (x1 : Int32) (x2 : Int32) (x3 : Int32) (x4 : Int32) (σ : St) : Option Int32 :=
  Option.bind (P_subjectOf x1 x2 σ) fun r2 =>
  if r2 = (-9 : Int32) then
    some (-2 : Int32)
  else
    Option.bind (P_isBelow x3 (6 : Int32) σ) fun r17 =>
    if r17 = true then
      Option.bind (P_isBelow x4 (10000 : Int32) σ) fun r28 =>
      if r28 = true then
        Option.bind (Texts_doQuarrel r2 x3 x4 σ) fun r46 =>
        if r46 = true then
          some (1 : Int32)
        else
          some (0 : Int32)
      else
        some (-2 : Int32)
    else
      some (-2 : Int32)
def Spans_add_licences (x1 : Int32) (x2 : Int32) (x3 : Int32) (x4 : Int32) (σ : St) : Option (Int32 × St) :=
  if (σ.1 11 4) < (12 : Int32) then
    if inb (σ.1 11 4) 12 then
      if inb (σ.1 11 4) 12 then
        if inb (σ.1 11 4) 12 then
          if inb (σ.1 11 4) 12 then
            some (((σ.1 11 4) + (1 : Int32)), (wI (wI (wI (wI (wI σ 12 (Int32.toNatClampNeg (σ.1 11 4)) x1) 13 (Int32.toNatClampNeg (σ.1 11 4)) x2) 14 (Int32.toNatClampNeg (σ.1 11 4)) x3) 15 (Int32.toNatClampNeg (σ.1 11 4)) x4) 11 4 ((σ.1 11 4) + (1 : Int32))))
          else none
        else none
      else none
    else none
  else
    some ((-4 : Int32), σ)
def P_licence (x1 : Int32) (x2 : Int32) (x3 : Int32) (x4 : Int32) (σ : St) : Option (Int32 × St) :=
  Option.bind (Roll_hasBand x1 σ) fun r5 =>
  if r5 = true then
    Option.bind (P_isBelow x2 (6 : Int32) σ) fun r16 =>
    if r16 = true then
      Option.bind (P_areDays x3 x4 σ) fun r25 =>
      if r25 = true then
        Option.bind (Spans_add_licences x1 x2 x3 x4 σ) fun q43 =>
        some (q43.1, q43.2)
      else
        some ((-2 : Int32), σ)
    else
      some ((-2 : Int32), σ)
  else
    some ((-1 : Int32), σ)
def Spans_covers_licences (x1 : Int32) (x2 : Int32) (σ : St) : Option Bool :=
  if inb x1 12 then
    if x2 < (σ.1 14 (Int32.toNatClampNeg x1)) then
      some false
    else
      if inb x1 12 then
        if (σ.1 15 (Int32.toNatClampNeg x1)) < x2 then
          some false
        else
          some true
      else none
  else none
def Spans_hasOn_licences_L3 (x1 : Int32) (x2 : Int32) (x3 : Int32) (σ : St) : Nat → Int32 → Option Bool
  | 0, _ => none
  | n + 1, x4 =>
    if (σ.1 11 4) ≤ x4 then
      some false
    else
      if inb x4 12 then
        if (σ.1 12 (Int32.toNatClampNeg x4)) = x1 then
          if inb x4 12 then
            if (σ.1 13 (Int32.toNatClampNeg x4)) = x2 then
              Option.bind (Spans_covers_licences x4 x3 σ) fun r38 =>
              if r38 = true then
                some true
              else
                Spans_hasOn_licences_L3 x1 x2 x3 σ n (x4 + (1 : Int32))
            else
              Spans_hasOn_licences_L3 x1 x2 x3 σ n (x4 + (1 : Int32))
          else none
        else
          Spans_hasOn_licences_L3 x1 x2 x3 σ n (x4 + (1 : Int32))
      else none
def Spans_hasOn_licences (x1 : Int32) (x2 : Int32) (x3 : Int32) (σ : St) : Option Bool :=
  Spans_hasOn_licences_L3 x1 x2 x3 σ FU (0 : Int32)
def P_isAllowed (x1 : Int32) (x2 : Int32) (σ : St) : Option Bool :=
  if inb x1 60 then
    Option.bind (Spans_whatOn_stays x2 (σ.1 34 (Int32.toNatClampNeg x1)) σ) fun r16 =>
    Option.bind (Roll_hasPlace r16 σ) fun r27 =>
    if r27 = true then
      if inb r16 16 then
        if inb x1 60 then
          Option.bind (Texts_valueIn ((4 : Int32) + (σ.1 31 (Int32.toNatClampNeg x1))) (σ.1 2 (Int32.toNatClampNeg r16)) (σ.1 34 (Int32.toNatClampNeg x1)) σ) fun r65 =>
          if r65 = (2 : Int32) then
            Option.bind (Spans_hasOn_licences x2 (σ.1 2 (Int32.toNatClampNeg r16)) (σ.1 34 (Int32.toNatClampNeg x1)) σ) fun r84 =>
            some r84
          else
            if r65 = 0 then
              some true
            else
              some false
        else none
      else none
    else
      some true
  else none
def P_unallowed_L17 (x1 : Int32) (σ : St) : Nat → Int32 → Int32 → Option Int32
  | 0, _, _ => none
  | n + 1, x2, x3 =>
    if (σ.1 28 6) ≤ x3 then
      some x2
    else
      if inb x3 60 then
        if (σ.1 29 (Int32.toNatClampNeg x3)) = x1 then
          if inb x3 60 then
            if (σ.1 30 (Int32.toNatClampNeg x3)) = (2 : Int32) then
              if inb x1 12 then
                Option.bind (P_isAllowed x3 (σ.1 23 (Int32.toNatClampNeg x1)) σ) fun r65 =>
                if r65 = true then
                  P_unallowed_L17 x1 σ n x2 (x3 + (1 : Int32))
                else
                  P_unallowed_L17 x1 σ n (x2 + (1 : Int32)) (x3 + (1 : Int32))
              else none
            else
              P_unallowed_L17 x1 σ n x2 (x3 + (1 : Int32))
          else none
        else
          P_unallowed_L17 x1 σ n x2 (x3 + (1 : Int32))
      else none
def P_unallowed (x1 : Int32) (σ : St) : Option Int32 :=
  Option.bind (Packs_has x1 σ) fun r5 =>
  if r5 = true then
    P_unallowed_L17 x1 σ FU (0 : Int32) (0 : Int32)
  else
    some (-1 : Int32)
def Debts_add (x1 : Int32) (x2 : Int32) (x3 : Int32) (x4 : Int32) (x5 : Int32) (x6 : Int32) (σ : St) : Option (Int32 × St) :=
  if (σ.1 49 7) < (20 : Int32) then
    if inb (σ.1 49 7) 20 then
      if inb (σ.1 49 7) 20 then
        if inb (σ.1 49 7) 20 then
          if inb (σ.1 49 7) 20 then
            if inb (σ.1 49 7) 20 then
              if inb (σ.1 49 7) 20 then
                if inb (σ.1 49 7) 20 then
                  some ((σ.1 49 7), (wI (wI (wI (wI (wI (wI (wI (wI σ 50 (Int32.toNatClampNeg (σ.1 49 7)) x1) 51 (Int32.toNatClampNeg (σ.1 49 7)) x2) 52 (Int32.toNatClampNeg (σ.1 49 7)) x3) 53 (Int32.toNatClampNeg (σ.1 49 7)) x4) 54 (Int32.toNatClampNeg (σ.1 49 7)) x5) 55 (Int32.toNatClampNeg (σ.1 49 7)) (0 : Int32)) 56 (Int32.toNatClampNeg (σ.1 49 7)) x6) 49 7 ((σ.1 49 7) + (1 : Int32))))
                else none
              else none
            else none
          else none
        else none
      else none
    else none
  else
    some ((-4 : Int32), σ)
def P_door (x1 : Int32) (x2 : Int32) (x3 : Int32) (x4 : Int32) (x5 : Int32) (σ : St) : Option (Int32 × St) :=
  Option.bind (Roll_hasPlace x2 σ) fun r5 =>
  if r5 = true then
    Option.bind (Packs_has x3 σ) fun r16 =>
    if r16 = true then
      Option.bind (P_isBelow x1 (3 : Int32) σ) fun r26 =>
      if r26 = true then
        if x4 < (1 : Int32) then
          some ((-2 : Int32), σ)
        else
          if (9999 : Int32) < x4 then
            some ((-2 : Int32), σ)
          else
            Option.bind (P_isBelow x5 (10000 : Int32) σ) fun r51 =>
            if r51 = true then
              if inb x3 12 then
                Option.bind (Debts_add x1 x2 x3 x4 x5 (σ.1 23 (Int32.toNatClampNeg x3)) σ) fun q80 =>
                some (q80.1, q80.2)
              else none
            else
              some ((-2 : Int32), σ)
      else
        some ((-2 : Int32), σ)
    else
      some ((-1 : Int32), σ)
  else
    some ((-1 : Int32), σ)
def P_landOfDebt (x1 : Int32) (σ : St) : Option Int32 :=
  if inb x1 20 then
    Option.bind (Roll_hasPlace (σ.1 51 (Int32.toNatClampNeg x1)) σ) fun r15 =>
    if r15 = true then
      if inb (σ.1 51 (Int32.toNatClampNeg x1)) 16 then
        some (σ.1 2 (Int32.toNatClampNeg (σ.1 51 (Int32.toNatClampNeg x1))))
      else none
    else
      some (-9 : Int32)
  else none
def P_barredFrom (x1 : Int32) (σ : St) : Option Int32 :=
  Option.bind (P_landOfDebt x1 σ) fun r7 =>
  if inb x1 20 then
    Option.bind (Texts_valueIn (2 : Int32) r7 (σ.1 54 (Int32.toNatClampNeg x1)) σ) fun r19 =>
    if r19 = 0 then
      some (-9 : Int32)
    else
      if inb x1 20 then
        some ((σ.1 54 (Int32.toNatClampNeg x1)) + r19)
      else none
  else none
def P_due (x1 : Int32) (x2 : Int32) (σ : St) : Option Int32 :=
  Option.bind (P_isBelow x1 (σ.1 49 7) σ) fun r8 =>
  if r8 = true then
    if x2 = (0 : Int32) then
      if inb x1 20 then
        some (σ.1 50 (Int32.toNatClampNeg x1))
      else none
    else
      if x2 = (1 : Int32) then
        if inb x1 20 then
          some (σ.1 51 (Int32.toNatClampNeg x1))
        else none
      else
        if x2 = (2 : Int32) then
          if inb x1 20 then
            some (σ.1 52 (Int32.toNatClampNeg x1))
          else none
        else
          if x2 = (3 : Int32) then
            if inb x1 20 then
              some (σ.1 53 (Int32.toNatClampNeg x1))
            else none
          else
            if x2 = (4 : Int32) then
              if inb x1 20 then
                some (σ.1 54 (Int32.toNatClampNeg x1))
              else none
            else
              if x2 = (5 : Int32) then
                Option.bind (P_barredFrom x1 σ) fun r116 =>
                some r116
              else
                if x2 = (6 : Int32) then
                  if inb x1 20 then
                    some (σ.1 55 (Int32.toNatClampNeg x1))
                  else none
                else
                  if x2 = (7 : Int32) then
                    if inb x1 20 then
                      some (σ.1 56 (Int32.toNatClampNeg x1))
                    else none
                  else
                    some (-2 : Int32)
  else
    some (-1 : Int32)
def P_isBarred (x1 : Int32) (x2 : Int32) (σ : St) : Option Bool :=
  Option.bind (P_barredFrom x1 σ) fun r2 =>
  if r2 = (-9 : Int32) then
    some false
  else
    if x2 < r2 then
      some false
    else
      some true
def Debts_left (x1 : Int32) (σ : St) : Option Int32 :=
  if inb x1 20 then
    if inb x1 20 then
      some ((σ.1 53 (Int32.toNatClampNeg x1)) - (σ.1 55 (Int32.toNatClampNeg x1)))
    else none
  else none
def P_paid (x1 : Int32) (x2 : Int32) (x3 : Int32) (σ : St) : Option (Int32 × St) :=
  Option.bind (P_isBelow x1 (σ.1 49 7) σ) fun r8 =>
  if r8 = true then
    if x2 < (1 : Int32) then
      some ((-2 : Int32), σ)
    else
      Option.bind (P_isBelow x3 (10000 : Int32) σ) fun r25 =>
      if r25 = true then
        Option.bind (P_isBarred x1 x3 σ) fun r37 =>
        if r37 = true then
          some ((-3 : Int32), σ)
        else
          Option.bind (Debts_left x1 σ) fun r49 =>
          if r49 < x2 then
            some ((-3 : Int32), σ)
          else
            if inb x1 20 then
              if (σ.1 54 (Int32.toNatClampNeg x1)) ≤ x3 then
                if inb x1 20 then
                  if inb x1 20 then
                    Option.bind (Debts_left x1 (wI σ 55 (Int32.toNatClampNeg x1) ((σ.1 55 (Int32.toNatClampNeg x1)) + x2))) fun r89 =>
                    some (r89, (wI σ 55 (Int32.toNatClampNeg x1) ((σ.1 55 (Int32.toNatClampNeg x1)) + x2)))
                  else none
                else none
              else
                some ((-3 : Int32), σ)
            else none
      else
        some ((-2 : Int32), σ)
  else
    some ((-1 : Int32), σ)
def Debts_isLeftBy (x1 : Int32) (x2 : Int32) (x3 : Int32) (σ : St) : Option Bool :=
  if inb x2 20 then
    if (σ.1 56 (Int32.toNatClampNeg x2)) = x1 then
      if inb x2 20 then
        if x3 < (σ.1 54 (Int32.toNatClampNeg x2)) then
          some false
        else
          Option.bind (Debts_left x2 σ) fun r22 =>
          if r22 ≤ 0 then
            some false
          else
            some true
      else none
    else
      some false
  else none
def P_passesOn (x1 : Int32) (x2 : Int32) (σ : St) : Option (Bool × St) :=
  Option.bind (P_landOfDebt x1 σ) fun r2 =>
  Option.bind (Texts_valueIn (3 : Int32) r2 x2 σ) fun r13 =>
  if inb x1 20 then
    if r13 = 0 then
      some (false, σ)
    else
      Option.bind (Packs_has (σ.1 52 (Int32.toNatClampNeg x1)) σ) fun r40 =>
      if r40 = true then
        if r13 = (1 : Int32) then
          if inb (σ.1 52 (Int32.toNatClampNeg x1)) 12 then
            if inb x1 20 then
              some (true, (wI σ 56 (Int32.toNatClampNeg x1) ((6 : Int32) + (σ.1 24 (Int32.toNatClampNeg (σ.1 52 (Int32.toNatClampNeg x1)))))))
            else none
          else none
        else
          if inb x1 20 then
            some (true, (wI σ 56 (Int32.toNatClampNeg x1) ((10 : Int32) + r2)))
          else none
      else
        some (false, σ)
  else none
def P_dead_L31 (x1 : Int32) (x2 : Int32) : Nat → Int32 → Int32 → St → Option (Int32 × St)
  | 0, _, _, _ => none
  | n + 1, x3, x4, σ =>
    if (σ.1 49 7) ≤ x4 then
      some (x3, σ)
    else
      Option.bind (Debts_isLeftBy x1 x4 x2 σ) fun r51 =>
      if r51 = true then
        Option.bind (P_isBarred x4 x2 σ) fun r61 =>
        if r61 = true then
          P_dead_L31 x1 x2 n x3 (x4 + (1 : Int32)) σ
        else
          Option.bind (P_passesOn x4 x2 σ) fun q71 =>
          if q71.1 = true then
            P_dead_L31 x1 x2 n (x3 + (1 : Int32)) (x4 + (1 : Int32)) q71.2
          else
            P_dead_L31 x1 x2 n x3 (x4 + (1 : Int32)) q71.2
      else
        P_dead_L31 x1 x2 n x3 (x4 + (1 : Int32)) σ
def P_dead (x1 : Int32) (x2 : Int32) (σ : St) : Option (Int32 × St) :=
  Option.bind (Roll_hasBand x1 σ) fun r5 =>
  if r5 = true then
    Option.bind (P_isBelow x2 (10000 : Int32) σ) fun r17 =>
    if r17 = true then
      P_dead_L31 x1 x2 FU (0 : Int32) (0 : Int32) σ
    else
      some ((-2 : Int32), σ)
  else
    some ((-1 : Int32), σ)
def Packs_sentBy_L5 (x1 : Int32) (x2 : Int32) (σ : St) : Nat → Int32 → Int32 → Option Int32
  | 0, _, _ => none
  | n + 1, x3, x4 =>
    if (σ.1 21 7) ≤ x4 then
      some x3
    else
      if inb x4 512 then
        if (σ.1 25 (Int32.toNatClampNeg x4)) = x1 then
          if inb x4 512 then
            if x2 < (σ.1 27 (Int32.toNatClampNeg x4)) then
              Packs_sentBy_L5 x1 x2 σ n x3 (x4 + (1 : Int32))
            else
              if inb x4 512 then
                Packs_sentBy_L5 x1 x2 σ n (x3 + (σ.1 26 (Int32.toNatClampNeg x4))) (x4 + (1 : Int32))
              else none
          else none
        else
          Packs_sentBy_L5 x1 x2 σ n x3 (x4 + (1 : Int32))
      else none
def Packs_sentBy (x1 : Int32) (x2 : Int32) (σ : St) : Option Int32 :=
  Packs_sentBy_L5 x1 x2 σ FU (0 : Int32) (0 : Int32)
def Packs_addSending (x1 : Int32) (x2 : Int32) (x3 : Int32) (σ : St) : Option (Int32 × St) :=
  if (σ.1 21 7) < (512 : Int32) then
    if inb (σ.1 21 7) 512 then
      if inb (σ.1 21 7) 512 then
        if inb (σ.1 21 7) 512 then
          Option.bind (Packs_sentBy x1 (10000 : Int32) (wI (wI (wI (wI σ 25 (Int32.toNatClampNeg (σ.1 21 7)) x1) 26 (Int32.toNatClampNeg (σ.1 21 7)) x2) 27 (Int32.toNatClampNeg (σ.1 21 7)) x3) 21 7 ((σ.1 21 7) + (1 : Int32)))) fun r60 =>
          some (r60, (wI (wI (wI (wI σ 25 (Int32.toNatClampNeg (σ.1 21 7)) x1) 26 (Int32.toNatClampNeg (σ.1 21 7)) x2) 27 (Int32.toNatClampNeg (σ.1 21 7)) x3) 21 7 ((σ.1 21 7) + (1 : Int32))))
        else none
      else none
    else none
  else
    some ((-4 : Int32), σ)
def P_send (x1 : Int32) (x2 : Int32) (x3 : Int32) (σ : St) : Option (Int32 × St) :=
  Option.bind (Packs_has x1 σ) fun r5 =>
  if r5 = true then
    if x2 < (1 : Int32) then
      some ((-2 : Int32), σ)
    else
      if (99999 : Int32) < x2 then
        some ((-2 : Int32), σ)
      else
        Option.bind (P_isBelow x3 (10000 : Int32) σ) fun r29 =>
        if r29 = true then
          Option.bind (Packs_addSending x1 x2 x3 σ) fun q45 =>
          some (q45.1, q45.2)
        else
          some ((-2 : Int32), σ)
  else
    some ((-1 : Int32), σ)
def Ledger_worth (x1 : Int32) (σ : St) : Option Int32 :=
  if inb x1 60 then
    if inb x1 60 then
      some ((σ.1 32 (Int32.toNatClampNeg x1)) * (σ.1 33 (Int32.toNatClampNeg x1)))
    else none
  else none
def P_credit_L30 (x1 : Int32) (x2 : Int32) (σ : St) : Nat → Int64 → Int32 → Option Int64
  | 0, _, _ => none
  | n + 1, x3, x5 =>
    if (σ.1 28 6) ≤ x5 then
      Option.bind (Packs_sentBy x1 x2 σ) fun r163 =>
      some (mxL (0 : Int64) (x3 - (Int32.toInt64 r163)))
    else
      if inb x5 60 then
        if (σ.1 29 (Int32.toNatClampNeg x5)) = x1 then
          if inb x5 60 then
            if (σ.1 30 (Int32.toNatClampNeg x5)) = 0 then
              if inb x5 60 then
                if (σ.1 34 (Int32.toNatClampNeg x5)) ≤ x2 then
                  Option.bind (Ledger_worth x5 σ) fun r92 =>
                  if inb x5 60 then
                    Option.bind (Texts_valueIn (1 : Int32) (-1 : Int32) (σ.1 34 (Int32.toNatClampNeg x5)) σ) fun r114 =>
                    if inb x5 60 then
                      P_credit_L30 x1 x2 σ n (x3 + ((Int32.toInt64 r92) + ((((Int32.toInt64 r92) * (Int32.toInt64 r114)) * (Int32.toInt64 (x2 - (σ.1 34 (Int32.toNatClampNeg x5))))) / (10000 : Int64)))) (x5 + (1 : Int32))
                    else none
                  else none
                else
                  P_credit_L30 x1 x2 σ n x3 (x5 + (1 : Int32))
              else none
            else
              P_credit_L30 x1 x2 σ n x3 (x5 + (1 : Int32))
          else none
        else
          P_credit_L30 x1 x2 σ n x3 (x5 + (1 : Int32))
      else none
def P_credit (x1 : Int32) (x2 : Int32) (σ : St) : Option Int64 :=
  Option.bind (Packs_has x1 σ) fun r5 =>
  if r5 = true then
    Option.bind (P_isBelow x2 (10000 : Int32) σ) fun r15 =>
    if r15 = true then
      P_credit_L30 x1 x2 σ FU (0 : Int64) (0 : Int32)
    else
      some (-9223372036854775808 : Int64)
  else
    some (-9223372036854775808 : Int64)
def P_gainOf_L6 (x1 : Int32) (x2 : Int32) (x3 : Int32) (σ : St) : Nat → Int32 → Int32 → Option Int32
  | 0, _, _ => none
  | n + 1, x4, x5 =>
    if (σ.1 28 6) ≤ x5 then
      some (maI (0 : Int32) x4)
    else
      if inb x5 60 then
        Option.bind (Packs_has (σ.1 29 (Int32.toNatClampNeg x5)) σ) fun r36 =>
        if r36 = true then
          if inb (σ.1 29 (Int32.toNatClampNeg x5)) 12 then
            if (σ.1 23 (Int32.toNatClampNeg (σ.1 29 (Int32.toNatClampNeg x5)))) = x1 then
              if inb x5 60 then
                if (σ.1 34 (Int32.toNatClampNeg x5)) < x2 then
                  P_gainOf_L6 x1 x2 x3 σ n x4 (x5 + (1 : Int32))
                else
                  if inb x5 60 then
                    if (σ.1 34 (Int32.toNatClampNeg x5)) ≤ x3 then
                      if inb x5 60 then
                        if (σ.1 30 (Int32.toNatClampNeg x5)) = (2 : Int32) then
                          Option.bind (Ledger_worth x5 σ) fun r112 =>
                          if inb x5 60 then
                            if (σ.1 30 (Int32.toNatClampNeg x5)) = (1 : Int32) then
                              Option.bind (Ledger_worth x5 σ) fun r140 =>
                              P_gainOf_L6 x1 x2 x3 σ n ((x4 + r112) - r140) (x5 + (1 : Int32))
                            else
                              P_gainOf_L6 x1 x2 x3 σ n (x4 + r112) (x5 + (1 : Int32))
                          else none
                        else
                          if inb x5 60 then
                            if (σ.1 30 (Int32.toNatClampNeg x5)) = (1 : Int32) then
                              Option.bind (Ledger_worth x5 σ) fun r140 =>
                              P_gainOf_L6 x1 x2 x3 σ n (x4 - r140) (x5 + (1 : Int32))
                            else
                              P_gainOf_L6 x1 x2 x3 σ n x4 (x5 + (1 : Int32))
                          else none
                      else none
                    else
                      P_gainOf_L6 x1 x2 x3 σ n x4 (x5 + (1 : Int32))
                  else none
              else none
            else
              P_gainOf_L6 x1 x2 x3 σ n x4 (x5 + (1 : Int32))
          else none
        else
          P_gainOf_L6 x1 x2 x3 σ n x4 (x5 + (1 : Int32))
      else none
def P_gainOf (x1 : Int32) (x2 : Int32) (x3 : Int32) (σ : St) : Option Int32 :=
  P_gainOf_L6 x1 x2 x3 σ FU (0 : Int32) (0 : Int32)
def P_share (x1 : Int32) (x2 : Int32) (x3 : Int32) (x4 : Int32) (σ : St) : Option Int32 :=
  Option.bind (Roll_hasBand x1 σ) fun r5 =>
  if r5 = true then
    Option.bind (P_isBelow x4 (4 : Int32) σ) fun r16 =>
    if r16 = true then
      Option.bind (P_areDays x2 x3 σ) fun r24 =>
      if r24 = true then
        Option.bind (P_gainOf x1 x2 x3 σ) fun r37 =>
        if x4 = 0 then
          some r37
        else
          Option.bind (Texts_valueIn (0 : Int32) (-1 : Int32) x3 σ) fun r61 =>
          if inb x1 6 then
            if inb x1 6 then
              if (((2 : Int32) * (σ.1 3 (Int32.toNatClampNeg x1))) + (σ.1 4 (Int32.toNatClampNeg x1))) = 0 then
                if (((2 : Int32) * (σ.1 3 (Int32.toNatClampNeg x1))) + (σ.1 4 (Int32.toNatClampNeg x1))) = 0 then
                  if x4 = (2 : Int32) then
                    some (0 : Int32)
                  else
                    if x4 = (3 : Int32) then
                      some (0 : Int32)
                    else
                      some ((r37 - ((σ.1 3 (Int32.toNatClampNeg x1)) * (0 : Int32))) - ((σ.1 4 (Int32.toNatClampNeg x1)) * (0 : Int32)))
                else
                  if (((2 : Int32) * (σ.1 3 (Int32.toNatClampNeg x1))) + (σ.1 4 (Int32.toNatClampNeg x1))) = 0 then none else
                  if x4 = (2 : Int32) then
                    some (0 : Int32)
                  else
                    if x4 = (3 : Int32) then
                      some ((r37 - ((r37 * r61) / (10 : Int32))) / (((2 : Int32) * (σ.1 3 (Int32.toNatClampNeg x1))) + (σ.1 4 (Int32.toNatClampNeg x1))))
                    else
                      some ((r37 - ((σ.1 3 (Int32.toNatClampNeg x1)) * (0 : Int32))) - ((σ.1 4 (Int32.toNatClampNeg x1)) * ((r37 - ((r37 * r61) / (10 : Int32))) / (((2 : Int32) * (σ.1 3 (Int32.toNatClampNeg x1))) + (σ.1 4 (Int32.toNatClampNeg x1))))))
              else
                if (((2 : Int32) * (σ.1 3 (Int32.toNatClampNeg x1))) + (σ.1 4 (Int32.toNatClampNeg x1))) = 0 then none else
                if (((2 : Int32) * (σ.1 3 (Int32.toNatClampNeg x1))) + (σ.1 4 (Int32.toNatClampNeg x1))) = 0 then
                  if x4 = (2 : Int32) then
                    some (((2 : Int32) * (r37 - ((r37 * r61) / (10 : Int32)))) / (((2 : Int32) * (σ.1 3 (Int32.toNatClampNeg x1))) + (σ.1 4 (Int32.toNatClampNeg x1))))
                  else
                    if x4 = (3 : Int32) then
                      some (0 : Int32)
                    else
                      some ((r37 - ((σ.1 3 (Int32.toNatClampNeg x1)) * (((2 : Int32) * (r37 - ((r37 * r61) / (10 : Int32)))) / (((2 : Int32) * (σ.1 3 (Int32.toNatClampNeg x1))) + (σ.1 4 (Int32.toNatClampNeg x1)))))) - ((σ.1 4 (Int32.toNatClampNeg x1)) * (0 : Int32)))
                else
                  if (((2 : Int32) * (σ.1 3 (Int32.toNatClampNeg x1))) + (σ.1 4 (Int32.toNatClampNeg x1))) = 0 then none else
                  if x4 = (2 : Int32) then
                    some (((2 : Int32) * (r37 - ((r37 * r61) / (10 : Int32)))) / (((2 : Int32) * (σ.1 3 (Int32.toNatClampNeg x1))) + (σ.1 4 (Int32.toNatClampNeg x1))))
                  else
                    if x4 = (3 : Int32) then
                      some ((r37 - ((r37 * r61) / (10 : Int32))) / (((2 : Int32) * (σ.1 3 (Int32.toNatClampNeg x1))) + (σ.1 4 (Int32.toNatClampNeg x1))))
                    else
                      some ((r37 - ((σ.1 3 (Int32.toNatClampNeg x1)) * (((2 : Int32) * (r37 - ((r37 * r61) / (10 : Int32)))) / (((2 : Int32) * (σ.1 3 (Int32.toNatClampNeg x1))) + (σ.1 4 (Int32.toNatClampNeg x1)))))) - ((σ.1 4 (Int32.toNatClampNeg x1)) * ((r37 - ((r37 * r61) / (10 : Int32))) / (((2 : Int32) * (σ.1 3 (Int32.toNatClampNeg x1))) + (σ.1 4 (Int32.toNatClampNeg x1))))))
            else none
          else none
      else
        some (-2 : Int32)
    else
      some (-2 : Int32)
  else
    some (-1 : Int32)
def P_areParties (x0 : Int32) (x1 : Int32) (σ : St) : Option Bool :=
  Option.bind (P_isBelow x0 (10 : Int32) σ) fun r3 =>
  if r3 = true then
    Option.bind (P_isBelow x1 (10 : Int32) σ) fun r12 =>
    if r12 = true then
      some true
    else
      some false
  else
    some false
def Owed_change (x1 : Int32) (x2 : Int32) (x3 : Int32) (σ : St) : Option (Int32 × St) :=
  if inb ((x1 * (10 : Int32)) + x2) 100 then
    if inb ((x1 * (10 : Int32)) + x2) 100 then
      some ((σ.1 58 (Int32.toNatClampNeg ((x1 * (10 : Int32)) + x2))), (wI (wI σ 58 (Int32.toNatClampNeg ((x1 * (10 : Int32)) + x2)) x3) 57 6 (0 : Int32)))
    else none
  else none
def P_owe (x1 : Int32) (x2 : Int32) (x3 : Int32) (σ : St) : Option (Int32 × St) :=
  Option.bind (P_areParties x1 x2 σ) fun r2 =>
  if r2 = true then
    if x1 = x2 then
      some ((-2 : Int32), σ)
    else
      Option.bind (P_isBelow x3 (100000 : Int32) σ) fun r17 =>
      if r17 = true then
        Option.bind (Owed_change x1 x2 x3 σ) fun q33 =>
        some (q33.1, q33.2)
      else
        some ((-2 : Int32), σ)
  else
    some ((-2 : Int32), σ)
def P_owes (x1 : Int32) (x2 : Int32) (σ : St) : Option Int32 :=
  Option.bind (P_areParties x1 x2 σ) fun r2 =>
  if r2 = true then
    if inb ((x1 * (10 : Int32)) + x2) 100 then
      some (σ.1 58 (Int32.toNatClampNeg ((x1 * (10 : Int32)) + x2)))
    else none
  else
    some (-2 : Int32)
def Owed_link (x1 : Int32) (x2 : Int32) (σ : St) : Option Int32 :=
  if x2 ≤ (x1 + (1 : Int32)) then
    if inb (0 : Int32) 4 then
      if inb x1 4 then
        some (((σ.1 63 (Int32.toNatClampNeg x1)) * (10 : Int32)) + (σ.1 63 (Int32.toNatClampNeg (0 : Int32))))
      else none
    else none
  else
    if inb (x1 + (1 : Int32)) 4 then
      if inb x1 4 then
        some (((σ.1 63 (Int32.toNatClampNeg x1)) * (10 : Int32)) + (σ.1 63 (Int32.toNatClampNeg (x1 + (1 : Int32)))))
      else none
    else none
def Owed_lessen_L47 (x1 : Int32) (x2 : Int32) : Nat → Int32 → St → Option (Int32 × St)
  | 0, _, _ => none
  | n + 1, x3, σ =>
    if x1 ≤ x3 then
      some ((x2 * x1), σ)
    else
      Option.bind (Owed_link x3 x1 σ) fun r59 =>
      if inb r59 100 then
        if inb r59 100 then
          Owed_lessen_L47 x1 x2 n (x3 + (1 : Int32)) (wI σ 58 (Int32.toNatClampNeg r59) ((σ.1 58 (Int32.toNatClampNeg r59)) - x2))
        else none
      else none
def Owed_lessen_L16 (x1 : Int32) (σ : St) : Nat → Int32 → Int32 → Option (Int32 × St)
  | 0, _, _ => none
  | n + 1, x2, x3 =>
    if (x1 - (1 : Int32)) ≤ x3 then
      Owed_lessen_L47 x1 x2 FU (0 : Int32) σ
    else
      Option.bind (Owed_link x3 x1 σ) fun r31 =>
      if inb r31 100 then
        Owed_lessen_L16 x1 σ n (miI x2 (σ.1 58 (Int32.toNatClampNeg r31))) (x3 + (1 : Int32))
      else none
def Owed_lessen (x1 : Int32) (σ : St) : Option (Int32 × St) :=
  Option.bind (Owed_link (x1 - (1 : Int32)) x1 σ) fun r9 =>
  if inb r9 100 then
    Owed_lessen_L16 x1 σ FU (σ.1 58 (Int32.toNatClampNeg r9)) (0 : Int32)
  else none
def Owed_isInRow_L2 (x1 : Int32) (x2 : Int32) (σ : St) : Nat → Int32 → Option Bool
  | 0, _ => none
  | n + 1, x3 =>
    if x2 ≤ x3 then
      some false
    else
      if inb x3 4 then
        if (σ.1 63 (Int32.toNatClampNeg x3)) = x1 then
          some true
        else
          Owed_isInRow_L2 x1 x2 σ n (x3 + (1 : Int32))
      else none
def Owed_isInRow (x1 : Int32) (x2 : Int32) (σ : St) : Option Bool :=
  Owed_isInRow_L2 x1 x2 σ FU (0 : Int32)
def Owed_owesLast (x1 : Int32) (x2 : Int32) (σ : St) : Option Bool :=
  if inb (x2 - (1 : Int32)) 4 then
    if inb (((σ.1 63 (Int32.toNatClampNeg (x2 - (1 : Int32)))) * (10 : Int32)) + x1) 100 then
      if (σ.1 58 (Int32.toNatClampNeg (((σ.1 63 (Int32.toNatClampNeg (x2 - (1 : Int32)))) * (10 : Int32)) + x1))) ≤ 0 then
        some false
      else
        some true
    else none
  else none
def Owed_cancelFrom_L36 (rec : Int32 → St → Option (Int32 × St)) (x1 : Int32) : Nat → Int32 → Int32 → St → Option (Int32 × St)
  | 0, _, _, _ => none
  | n + 1, x2, x3, σ =>
    if (10 : Int32) ≤ x3 then
      some (x2, σ)
    else
      Option.bind (Owed_isInRow x3 x1 σ) fun r45 =>
      if r45 = true then
        Owed_cancelFrom_L36 rec x1 n x2 (x3 + (1 : Int32)) σ
      else
        Option.bind (Owed_owesLast x3 x1 σ) fun r54 =>
        if r54 = true then
          if inb x1 4 then
            Option.bind (rec (x1 + (1 : Int32)) (wI σ 63 (Int32.toNatClampNeg x1) x3)) fun q75 =>
            Owed_cancelFrom_L36 rec x1 n (x2 + q75.1) (x3 + (1 : Int32)) q75.2
          else none
        else
          Owed_cancelFrom_L36 rec x1 n x2 (x3 + (1 : Int32)) σ
def Owed_cancelFrom : Nat → Int32 → St → Option (Int32 × St)
  | 0, _, _ => none
  | g + 1, x1, σ =>
    if (2 : Int32) ≤ x1 then
      Option.bind (Owed_lessen x1 σ) fun q11 =>
      if x1 < (1 : Int32) then
        some (q11.1, q11.2)
      else
        if x1 < (4 : Int32) then
          if inb (0 : Int32) 4 then
            Owed_cancelFrom_L36 (Owed_cancelFrom g) x1 FU q11.1 ((q11.2.1 63 (Int32.toNatClampNeg (0 : Int32))) + (1 : Int32)) q11.2
          else none
        else
          some (q11.1, q11.2)
    else
      if x1 < (1 : Int32) then
        some ((0 : Int32), σ)
      else
        if x1 < (4 : Int32) then
          if inb (0 : Int32) 4 then
            Owed_cancelFrom_L36 (Owed_cancelFrom g) x1 FU (0 : Int32) ((σ.1 63 (Int32.toNatClampNeg (0 : Int32))) + (1 : Int32)) σ
          else none
        else
          some ((0 : Int32), σ)
def Owed_cancelRings_L9  : Nat → Int32 → Int32 → St → Option (Int32 × St)
  | 0, _, _, _ => none
  | n + 1, x1, x2, σ =>
    if (10 : Int32) ≤ x2 then
      some (x1, σ)
    else
      if inb (0 : Int32) 4 then
        Option.bind (Owed_cancelFrom 5 (1 : Int32) (wI σ 63 (Int32.toNatClampNeg (0 : Int32)) x2)) fun q25 =>
        Owed_cancelRings_L9 n (x1 + q25.1) (x2 + (1 : Int32)) q25.2
      else none
def Owed_cancelRings  (σ : St) : Option (Int32 × St) :=
  Owed_cancelRings_L9 FU (0 : Int32) (0 : Int32) (wI σ 57 6 (0 : Int32))
def P_ring  (σ : St) : Option (Int32 × St) :=
  Option.bind (Owed_cancelRings σ) fun q4 =>
  some (q4.1, q4.2)
def Owed_changeRank (x1 : Int32) (x2 : Int32) (σ : St) : Option (Int32 × St) :=
  if inb x1 10 then
    if inb x1 10 then
      some ((σ.1 62 (Int32.toNatClampNeg x1)), (wI (wI σ 62 (Int32.toNatClampNeg x1) x2) 57 6 (0 : Int32)))
    else none
  else none
def Owed_changeCoin (x1 : Int32) (x2 : Int32) (σ : St) : Option (Int32 × St) :=
  if inb x1 10 then
    if inb x1 10 then
      some ((σ.1 61 (Int32.toNatClampNeg x1)), (wI (wI σ 61 (Int32.toNatClampNeg x1) x2) 57 6 (0 : Int32)))
    else none
  else none
def P_party (x1 : Int32) (x2 : Int32) (x3 : Int32) (σ : St) : Option (Int32 × St) :=
  Option.bind (P_isBelow x1 (10 : Int32) σ) fun r3 =>
  if r3 = true then
    if x2 = 0 then
      Option.bind (P_isBelow x3 (100000 : Int32) σ) fun r20 =>
      if r20 = true then
        Option.bind (Owed_changeCoin x1 x3 σ) fun q32 =>
        some (q32.1, q32.2)
      else
        if x2 = (1 : Int32) then
          Option.bind (P_isBelow x3 (3 : Int32) σ) fun r43 =>
          if r43 = true then
            Option.bind (Owed_changeRank x1 x3 σ) fun q55 =>
            some (q55.1, q55.2)
          else
            some ((-2 : Int32), σ)
        else
          some ((-2 : Int32), σ)
    else
      if x2 = (1 : Int32) then
        Option.bind (P_isBelow x3 (3 : Int32) σ) fun r43 =>
        if r43 = true then
          Option.bind (Owed_changeRank x1 x3 σ) fun q55 =>
          some (q55.1, q55.2)
        else
          some ((-2 : Int32), σ)
      else
        some ((-2 : Int32), σ)
  else
    some ((-2 : Int32), σ)
def Owed_takeNext_L4  : Nat → Int32 → Int32 → St → Option (Bool × St)
  | 0, _, _, _ => none
  | n + 1, x1, x2, σ =>
    if (100 : Int32) ≤ x2 then
      if x1 = 0 then
        some (false, σ)
      else
        if x1 = 1 then
          some (true, σ)
        else
          none
    else
      if inb x2 100 then
        if inb x2 100 then
          if (σ.1 59 (Int32.toNatClampNeg x2)) = (σ.1 60 (Int32.toNatClampNeg x2)) then
            if inb x2 100 then
              if inb x2 100 then
                Owed_takeNext_L4 n x1 (x2 + (1 : Int32)) (wI σ 59 (Int32.toNatClampNeg x2) (σ.1 60 (Int32.toNatClampNeg x2)))
              else none
            else none
          else
            if inb x2 100 then
              if inb x2 100 then
                Owed_takeNext_L4 n (1 : Int32) (x2 + (1 : Int32)) (wI σ 59 (Int32.toNatClampNeg x2) (σ.1 60 (Int32.toNatClampNeg x2)))
              else none
            else none
        else none
      else none
def Owed_takeNext  (σ : St) : Option (Bool × St) :=
  Owed_takeNext_L4 FU (0 : Int32) (0 : Int32) σ
def Owed_payRank_L63 (x1 : Int32) (x2 : Int32) (x3 : Int32) (x4 : Int32) (x5 : Int32) : Nat → Int32 → St → Option (Int32 × St)
  | 0, _, _ => none
  | n + 1, x6, σ =>
    if (10 : Int32) ≤ x6 then
      if x5 = 0 then
        some ((0 : Int32), σ)
      else
        some ((x3 - x4), σ)
    else
      if inb x6 10 then
        if (σ.1 62 (Int32.toNatClampNeg x6)) = x2 then
          if inb ((x1 * (10 : Int32)) + x6) 100 then
            if x5 = 0 then
              if x4 = 0 then
                if inb ((x1 * (10 : Int32)) + x6) 100 then
                  Owed_payRank_L63 x1 x2 x3 x4 x5 n (x6 + (1 : Int32)) (wI σ 60 (Int32.toNatClampNeg ((x1 * (10 : Int32)) + x6)) (Int64.toInt32 (Int32.toInt64 (σ.1 58 (Int32.toNatClampNeg ((x1 * (10 : Int32)) + x6))))))
                else none
              else
                if (Int32.toInt64 x4) = 0 then none else
                if inb ((x1 * (10 : Int32)) + x6) 100 then
                  Owed_payRank_L63 x1 x2 x3 x4 x5 n (x6 + (1 : Int32)) (wI σ 60 (Int32.toNatClampNeg ((x1 * (10 : Int32)) + x6)) (Int64.toInt32 (((Int32.toInt64 (σ.1 58 (Int32.toNatClampNeg ((x1 * (10 : Int32)) + x6)))) * (Int32.toInt64 x3)) / (Int32.toInt64 x4))))
                else none
            else
              if inb ((x1 * (10 : Int32)) + x6) 100 then
                Owed_payRank_L63 x1 x2 x3 x4 x5 n (x6 + (1 : Int32)) (wI σ 60 (Int32.toNatClampNeg ((x1 * (10 : Int32)) + x6)) (Int64.toInt32 (Int32.toInt64 (σ.1 58 (Int32.toNatClampNeg ((x1 * (10 : Int32)) + x6))))))
              else none
          else none
        else
          Owed_payRank_L63 x1 x2 x3 x4 x5 n (x6 + (1 : Int32)) σ
      else none
def Owed_payRank_L6 (x1 : Int32) (x2 : Int32) (x3 : Int32) (σ : St) : Nat → Int32 → Int32 → Option (Int32 × St)
  | 0, _, _ => none
  | n + 1, x4, x5 =>
    if (10 : Int32) ≤ x5 then
      if x3 < x4 then
        Owed_payRank_L63 x1 x2 x3 x4 (0 : Int32) FU (0 : Int32) σ
      else
        Owed_payRank_L63 x1 x2 x3 x4 (1 : Int32) FU (0 : Int32) σ
    else
      if inb x5 10 then
        if (σ.1 62 (Int32.toNatClampNeg x5)) = x2 then
          if inb ((x1 * (10 : Int32)) + x5) 100 then
            Owed_payRank_L6 x1 x2 x3 σ n (x4 + (σ.1 58 (Int32.toNatClampNeg ((x1 * (10 : Int32)) + x5)))) (x5 + (1 : Int32))
          else none
        else
          Owed_payRank_L6 x1 x2 x3 σ n x4 (x5 + (1 : Int32))
      else none
def Owed_payRank (x1 : Int32) (x2 : Int32) (x3 : Int32) (σ : St) : Option (Int32 × St) :=
  Owed_payRank_L6 x1 x2 x3 σ FU (0 : Int32) (0 : Int32)
def Owed_payOut_L85 (x1 : Int32) : Nat → Int32 → Int32 → St → Option St
  | 0, _, _, _ => none
  | n + 1, x2, x4, σ =>
    if (3 : Int32) ≤ x4 then
      some σ
    else
      Option.bind (Owed_payRank x1 x4 x2 σ) fun q96 =>
      Owed_payOut_L85 x1 n q96.1 (x4 + (1 : Int32)) q96.2
def Owed_payOut_L12 (x1 : Int32) (σ : St) : Nat → Int32 → Int32 → Int32 → Option St
  | 0, _, _, _ => none
  | n + 1, x2, x3, x4 =>
    if (10 : Int32) ≤ x4 then
      if x2 < x3 then
        Owed_payOut_L85 x1 FU x2 (0 : Int32) σ
      else
        if cpok (x1 * (10 : Int32)) (x1 * (10 : Int32)) (10 : Int32) 100 100 then
          some (wA σ 60 (va_cpy (σ.1 58) (σ.1 60) (Int32.toNatClampNeg (x1 * (10 : Int32))) (Int32.toNatClampNeg (x1 * (10 : Int32))) (Int32.toNatClampNeg (10 : Int32))))
        else none
    else
      if inb ((x4 * (10 : Int32)) + x1) 100 then
        if inb ((x1 * (10 : Int32)) + x4) 100 then
          Owed_payOut_L12 x1 σ n (x2 + (σ.1 59 (Int32.toNatClampNeg ((x4 * (10 : Int32)) + x1)))) (x3 + (σ.1 58 (Int32.toNatClampNeg ((x1 * (10 : Int32)) + x4)))) (x4 + (1 : Int32))
        else none
      else none
def Owed_payOut (x1 : Int32) (σ : St) : Option St :=
  if inb x1 10 then
    Owed_payOut_L12 x1 σ FU (σ.1 61 (Int32.toNatClampNeg x1)) (0 : Int32) (0 : Int32)
  else none
def Owed_settle_L42 (x2 : Int32) (k30 : Int32 → Int32 → St → Option St) : Nat → Int32 → St → Option St
  | 0, _, _ => none
  | n + 1, x3, σ =>
    if (10 : Int32) ≤ x3 then
      Option.bind (Owed_takeNext σ) fun q60 =>
      k30 (bi q60.1) (x2 + (1 : Int32)) q60.2
    else
      Option.bind (Owed_payOut x3 σ) fun q50 =>
      Owed_settle_L42 x2 k30 n (x3 + (1 : Int32)) q50
def Owed_settle_L30  : Nat → Int32 → Int32 → St → Option St
  | 0, _, _, _ => none
  | n + 1, x1, x2, σ =>
    if (60 : Int32) ≤ x2 then
      some (wI σ 57 6 (1 : Int32))
    else
      if x1 = 0 then
        some (wI σ 57 6 (1 : Int32))
      else
        Owed_settle_L42 x2 (fun y1 y2 τ => Owed_settle_L30 n y1 y2 τ) FU (0 : Int32) σ
def Owed_settle  (σ : St) : Option St :=
  if (σ.1 57 6) = 0 then
    if cpok (0 : Int32) (0 : Int32) (100 : Int32) 100 100 then
      Owed_settle_L30 FU (1 : Int32) (0 : Int32) (wA σ 59 (va_cpy (σ.1 58) (σ.1 59) (Int32.toNatClampNeg (0 : Int32)) (Int32.toNatClampNeg (0 : Int32)) (Int32.toNatClampNeg (100 : Int32))))
    else none
  else
    some σ
def P_pays (x1 : Int32) (x2 : Int32) (σ : St) : Option (Int32 × St) :=
  Option.bind (P_areParties x1 x2 σ) fun r2 =>
  if r2 = true then
    Option.bind (Owed_settle σ) fun q15 =>
    if inb ((x1 * (10 : Int32)) + x2) 100 then
      some ((q15.1 59 (Int32.toNatClampNeg ((x1 * (10 : Int32)) + x2))), q15)
    else none
  else
    some ((-2 : Int32), σ)
def Owed_fallen_L4 (σ : St) : Nat → Int32 → Int32 → Option Int32
  | 0, _, _ => none
  | n + 1, x1, x2 =>
    if (100 : Int32) ≤ x2 then
      some x1
    else
      if inb x2 100 then
        if inb x2 100 then
          if (σ.1 58 (Int32.toNatClampNeg x2)) ≤ (σ.1 59 (Int32.toNatClampNeg x2)) then
            Owed_fallen_L4 σ n x1 (x2 + (1 : Int32))
          else
            Owed_fallen_L4 σ n (x1 ||| ((1 : Int32) <<< ((x2 / (10 : Int32)) &&& 31))) (x2 + (1 : Int32))
        else none
      else none
def Owed_fallen  (σ : St) : Option Int32 :=
  Owed_fallen_L4 σ FU (0 : Int32) (0 : Int32)
def P_ruin  (σ : St) : Option (Int32 × St) :=
  Option.bind (Owed_settle σ) fun q4 =>
  Option.bind (Owed_fallen q4) fun r11 =>
  some (r11, q4)
def Rounds_add_L36 (x2 : Int32) (x3 : Int32) (x4 : Int32) : Nat → Int32 → St → Option (Int32 × St)
  | 0, _, _ => none
  | n + 1, x5, σ =>
    if x4 ≤ x5 then
      some ((σ.1 64 2), (wI σ 64 2 ((σ.1 64 2) + (1 : Int32))))
    else
      Option.bind (Sheets_valueAt x2 (x3 + x5) σ) fun r63 =>
      if inb (((σ.1 64 2) * (8 : Int32)) + x5) 80 then
        Rounds_add_L36 x2 x3 x4 n (x5 + (1 : Int32)) (wI σ 66 (Int32.toNatClampNeg (((σ.1 64 2) * (8 : Int32)) + x5)) r63)
      else none
def Rounds_add (x2 : Int32) (x3 : Int32) (x4 : Int32) (σ : St) : Option (Int32 × St) :=
  if (10 : Int32) ≤ (σ.1 64 2) then
    some ((-4 : Int32), σ)
  else
    if x4 ≤ (8 : Int32) then
      if inb (σ.1 64 2) 10 then
        Rounds_add_L36 x2 x3 x4 FU (0 : Int32) (wI σ 65 (Int32.toNatClampNeg (σ.1 64 2)) x4)
      else none
    else
      some ((-4 : Int32), σ)
def P_round_L75 (x1 : Int32) (x3 : Int32) (x4 : Int32) (σ : St) : Nat → Int32 → Option (Int32 × St)
  | 0, _ => none
  | n + 1, x6 =>
    if x4 ≤ x6 then
      Option.bind (Rounds_add x1 x3 x4 σ) fun q124 =>
      some (q124.1, q124.2)
    else
      Option.bind (Sheets_valueAt x1 (x3 + x6) σ) fun r95 =>
      Option.bind (Roll_hasPlace r95 σ) fun r98 =>
      if r98 = true then
        P_round_L75 x1 x3 x4 σ n (x6 + (1 : Int32))
      else
        some ((-1 : Int32), σ)
def P_round (x1 : Int32) (x2 : Int32) (x3 : Int32) (x4 : Int32) (σ : St) : Option (Int32 × St) :=
  Option.bind (Sheets_has x1 (wI σ 0 13 (0 : Int32))) fun r10 =>
  if r10 = true then
    Option.bind (P_isBelow x2 (3 : Int32) (wI σ 0 13 (0 : Int32))) fun r20 =>
    if r20 = true then
      Option.bind (Sheets_takingFault x1 x2 x3 (Int32.toInt64 x4) (wI σ 0 13 (0 : Int32))) fun r39 =>
      if r39 = 0 then
        if x4 < (1 : Int32) then
          some ((-2 : Int32), (wI σ 0 13 (0 : Int32)))
        else
          if x4 ≤ (8 : Int32) then
            P_round_L75 x1 x3 x4 (wI σ 0 13 (0 : Int32)) FU (0 : Int32)
          else
            some ((-2 : Int32), (wI σ 0 13 (0 : Int32)))
      else
        Option.bind (P_faulted r39 (wI σ 0 13 (0 : Int32))) fun q52 =>
        some (q52.1, q52.2)
    else
      some ((-2 : Int32), (wI σ 0 13 (0 : Int32)))
  else
    some ((-1 : Int32), (wI σ 0 13 (0 : Int32)))
def Rounds_has (x1 : Int32) (σ : St) : Option Bool :=
  Option.bind (P_isBelow x1 (σ.1 64 2) σ) fun r5 =>
  some r5
def Spans_add_rights (x1 : Int32) (x2 : Int32) (x3 : Int32) (x4 : Int32) (σ : St) : Option (Int32 × St) :=
  if (σ.1 16 4) < (20 : Int32) then
    if inb (σ.1 16 4) 20 then
      if inb (σ.1 16 4) 20 then
        if inb (σ.1 16 4) 20 then
          if inb (σ.1 16 4) 20 then
            some (((σ.1 16 4) + (1 : Int32)), (wI (wI (wI (wI (wI σ 17 (Int32.toNatClampNeg (σ.1 16 4)) x1) 18 (Int32.toNatClampNeg (σ.1 16 4)) x2) 19 (Int32.toNatClampNeg (σ.1 16 4)) x3) 20 (Int32.toNatClampNeg (σ.1 16 4)) x4) 16 4 ((σ.1 16 4) + (1 : Int32))))
          else none
        else none
      else none
    else none
  else
    some ((-4 : Int32), σ)
def P_right (x1 : Int32) (x2 : Int32) (x3 : Int32) (x4 : Int32) (x5 : Int32) (σ : St) : Option (Int32 × St) :=
  Option.bind (Roll_hasBand x1 σ) fun r5 =>
  if r5 = true then
    Option.bind (Rounds_has x2 σ) fun r16 =>
    if r16 = true then
      Option.bind (P_isBelow x3 (3 : Int32) σ) fun r26 =>
      if r26 = true then
        Option.bind (P_areDays x4 x5 σ) fun r36 =>
        if r36 = true then
          Option.bind (Spans_add_rights x1 x2 x4 x5 σ) fun q55 =>
          some (q55.1, q55.2)
        else
          some ((-2 : Int32), σ)
      else
        some ((-2 : Int32), σ)
    else
      some ((-1 : Int32), σ)
  else
    some ((-1 : Int32), σ)
def Spans_covers_rights (x1 : Int32) (x2 : Int32) (σ : St) : Option Bool :=
  if inb x1 20 then
    if x2 < (σ.1 19 (Int32.toNatClampNeg x1)) then
      some false
    else
      if inb x1 20 then
        if (σ.1 20 (Int32.toNatClampNeg x1)) < x2 then
          some false
        else
          some true
      else none
  else none
def Spans_latestWho_rights_L7 (x1 : Int32) (x2 : Int32) (σ : St) : Nat → Int32 → Option Int32
  | 0, _ => none
  | n + 1, x3 =>
    if x3 < 0 then
      some (-9 : Int32)
    else
      if inb x3 20 then
        if (σ.1 18 (Int32.toNatClampNeg x3)) = x1 then
          Option.bind (Spans_covers_rights x3 x2 σ) fun r24 =>
          if r24 = true then
            if inb x3 20 then
              some (σ.1 17 (Int32.toNatClampNeg x3))
            else none
          else
            Spans_latestWho_rights_L7 x1 x2 σ n (x3 + (-1 : Int32))
        else
          Spans_latestWho_rights_L7 x1 x2 σ n (x3 + (-1 : Int32))
      else none
def Spans_latestWho_rights (x1 : Int32) (x2 : Int32) (σ : St) : Option Int32 :=
  Spans_latestWho_rights_L7 x1 x2 σ FU ((σ.1 16 4) - (1 : Int32))
def P_holder (x1 : Int32) (x2 : Int32) (σ : St) : Option Int32 :=
  Option.bind (Rounds_has x1 σ) fun r5 =>
  if r5 = true then
    Option.bind (P_isBelow x2 (10000 : Int32) σ) fun r17 =>
    if r17 = true then
      Option.bind (Spans_latestWho_rights x1 x2 σ) fun r32 =>
      some r32
    else
      some (-2 : Int32)
  else
    some (-1 : Int32)
def Spans_nextTurn_rights_L7 (x1 : Int32) (x2 : Int32) (σ : St) : Nat → Int32 → Int32 → Option Int32
  | 0, _, _ => none
  | n + 1, x3, x4 =>
    if (σ.1 16 4) ≤ x4 then
      some x3
    else
      if inb x4 20 then
        if (σ.1 18 (Int32.toNatClampNeg x4)) = x1 then
          if inb x4 20 then
            if (σ.1 19 (Int32.toNatClampNeg x4)) ≤ x2 then
              if inb x4 20 then
                if (σ.1 20 (Int32.toNatClampNeg x4)) < x2 then
                  Spans_nextTurn_rights_L7 x1 x2 σ n x3 (x4 + (1 : Int32))
                else
                  if inb x4 20 then
                    if x3 ≤ ((σ.1 20 (Int32.toNatClampNeg x4)) + (1 : Int32)) then
                      Spans_nextTurn_rights_L7 x1 x2 σ n x3 (x4 + (1 : Int32))
                    else
                      if inb x4 20 then
                        Spans_nextTurn_rights_L7 x1 x2 σ n ((σ.1 20 (Int32.toNatClampNeg x4)) + (1 : Int32)) (x4 + (1 : Int32))
                      else none
                  else none
              else none
            else
              if inb x4 20 then
                if x3 ≤ (σ.1 19 (Int32.toNatClampNeg x4)) then
                  if inb x4 20 then
                    if (σ.1 20 (Int32.toNatClampNeg x4)) < x2 then
                      Spans_nextTurn_rights_L7 x1 x2 σ n x3 (x4 + (1 : Int32))
                    else
                      if inb x4 20 then
                        if x3 ≤ ((σ.1 20 (Int32.toNatClampNeg x4)) + (1 : Int32)) then
                          Spans_nextTurn_rights_L7 x1 x2 σ n x3 (x4 + (1 : Int32))
                        else
                          if inb x4 20 then
                            Spans_nextTurn_rights_L7 x1 x2 σ n ((σ.1 20 (Int32.toNatClampNeg x4)) + (1 : Int32)) (x4 + (1 : Int32))
                          else none
                      else none
                  else none
                else
                  if inb x4 20 then
                    if inb x4 20 then
                      if (σ.1 20 (Int32.toNatClampNeg x4)) < x2 then
                        Spans_nextTurn_rights_L7 x1 x2 σ n (σ.1 19 (Int32.toNatClampNeg x4)) (x4 + (1 : Int32))
                      else
                        if inb x4 20 then
                          if (σ.1 19 (Int32.toNatClampNeg x4)) ≤ ((σ.1 20 (Int32.toNatClampNeg x4)) + (1 : Int32)) then
                            Spans_nextTurn_rights_L7 x1 x2 σ n (σ.1 19 (Int32.toNatClampNeg x4)) (x4 + (1 : Int32))
                          else
                            if inb x4 20 then
                              Spans_nextTurn_rights_L7 x1 x2 σ n ((σ.1 20 (Int32.toNatClampNeg x4)) + (1 : Int32)) (x4 + (1 : Int32))
                            else none
                        else none
                    else none
                  else none
              else none
          else none
        else
          Spans_nextTurn_rights_L7 x1 x2 σ n x3 (x4 + (1 : Int32))
      else none
def Spans_nextTurn_rights (x1 : Int32) (x2 : Int32) (σ : St) : Option Int32 :=
  Spans_nextTurn_rights_L7 x1 x2 σ FU (10000 : Int32) (0 : Int32)
def Spans_whosOn_rights_L5 (x1 : Int32) (x2 : Int32) (σ : St) : Nat → Int32 → Int32 → Option Int32
  | 0, _, _ => none
  | n + 1, x3, x4 =>
    if (σ.1 16 4) ≤ x4 then
      some x3
    else
      if inb x4 20 then
        if (σ.1 18 (Int32.toNatClampNeg x4)) = x1 then
          Option.bind (Spans_covers_rights x4 x2 σ) fun r29 =>
          if r29 = true then
            if inb x4 20 then
              Spans_whosOn_rights_L5 x1 x2 σ n (x3 ||| ((1 : Int32) <<< ((σ.1 17 (Int32.toNatClampNeg x4)) &&& 31))) (x4 + (1 : Int32))
            else none
          else
            Spans_whosOn_rights_L5 x1 x2 σ n x3 (x4 + (1 : Int32))
        else
          Spans_whosOn_rights_L5 x1 x2 σ n x3 (x4 + (1 : Int32))
      else none
def Spans_whosOn_rights (x1 : Int32) (x2 : Int32) (σ : St) : Option Int32 :=
  Spans_whosOn_rights_L5 x1 x2 σ FU (0 : Int32) (0 : Int32)
def JI_bitCount (x0 : Int32) (σ : St) : Option Int32 :=
  some ((((((((x0 - (((x0.toUInt32 >>> ((1 : Int32).toUInt32 &&& Int32.toUInt32 31)).toInt32) &&& (1431655765 : Int32))) &&& (858993459 : Int32)) + ((((x0 - (((x0.toUInt32 >>> ((1 : Int32).toUInt32 &&& Int32.toUInt32 31)).toInt32) &&& (1431655765 : Int32))).toUInt32 >>> ((2 : Int32).toUInt32 &&& Int32.toUInt32 31)).toInt32) &&& (858993459 : Int32))) + (((((x0 - (((x0.toUInt32 >>> ((1 : Int32).toUInt32 &&& Int32.toUInt32 31)).toInt32) &&& (1431655765 : Int32))) &&& (858993459 : Int32)) + ((((x0 - (((x0.toUInt32 >>> ((1 : Int32).toUInt32 &&& Int32.toUInt32 31)).toInt32) &&& (1431655765 : Int32))).toUInt32 >>> ((2 : Int32).toUInt32 &&& Int32.toUInt32 31)).toInt32) &&& (858993459 : Int32))).toUInt32 >>> ((4 : Int32).toUInt32 &&& Int32.toUInt32 31)).toInt32)) &&& (252645135 : Int32)) + (((((((x0 - (((x0.toUInt32 >>> ((1 : Int32).toUInt32 &&& Int32.toUInt32 31)).toInt32) &&& (1431655765 : Int32))) &&& (858993459 : Int32)) + ((((x0 - (((x0.toUInt32 >>> ((1 : Int32).toUInt32 &&& Int32.toUInt32 31)).toInt32) &&& (1431655765 : Int32))).toUInt32 >>> ((2 : Int32).toUInt32 &&& Int32.toUInt32 31)).toInt32) &&& (858993459 : Int32))) + (((((x0 - (((x0.toUInt32 >>> ((1 : Int32).toUInt32 &&& Int32.toUInt32 31)).toInt32) &&& (1431655765 : Int32))) &&& (858993459 : Int32)) + ((((x0 - (((x0.toUInt32 >>> ((1 : Int32).toUInt32 &&& Int32.toUInt32 31)).toInt32) &&& (1431655765 : Int32))).toUInt32 >>> ((2 : Int32).toUInt32 &&& Int32.toUInt32 31)).toInt32) &&& (858993459 : Int32))).toUInt32 >>> ((4 : Int32).toUInt32 &&& Int32.toUInt32 31)).toInt32)) &&& (252645135 : Int32)).toUInt32 >>> ((8 : Int32).toUInt32 &&& Int32.toUInt32 31)).toInt32)) + ((((((((x0 - (((x0.toUInt32 >>> ((1 : Int32).toUInt32 &&& Int32.toUInt32 31)).toInt32) &&& (1431655765 : Int32))) &&& (858993459 : Int32)) + ((((x0 - (((x0.toUInt32 >>> ((1 : Int32).toUInt32 &&& Int32.toUInt32 31)).toInt32) &&& (1431655765 : Int32))).toUInt32 >>> ((2 : Int32).toUInt32 &&& Int32.toUInt32 31)).toInt32) &&& (858993459 : Int32))) + (((((x0 - (((x0.toUInt32 >>> ((1 : Int32).toUInt32 &&& Int32.toUInt32 31)).toInt32) &&& (1431655765 : Int32))) &&& (858993459 : Int32)) + ((((x0 - (((x0.toUInt32 >>> ((1 : Int32).toUInt32 &&& Int32.toUInt32 31)).toInt32) &&& (1431655765 : Int32))).toUInt32 >>> ((2 : Int32).toUInt32 &&& Int32.toUInt32 31)).toInt32) &&& (858993459 : Int32))).toUInt32 >>> ((4 : Int32).toUInt32 &&& Int32.toUInt32 31)).toInt32)) &&& (252645135 : Int32)) + (((((((x0 - (((x0.toUInt32 >>> ((1 : Int32).toUInt32 &&& Int32.toUInt32 31)).toInt32) &&& (1431655765 : Int32))) &&& (858993459 : Int32)) + ((((x0 - (((x0.toUInt32 >>> ((1 : Int32).toUInt32 &&& Int32.toUInt32 31)).toInt32) &&& (1431655765 : Int32))).toUInt32 >>> ((2 : Int32).toUInt32 &&& Int32.toUInt32 31)).toInt32) &&& (858993459 : Int32))) + (((((x0 - (((x0.toUInt32 >>> ((1 : Int32).toUInt32 &&& Int32.toUInt32 31)).toInt32) &&& (1431655765 : Int32))) &&& (858993459 : Int32)) + ((((x0 - (((x0.toUInt32 >>> ((1 : Int32).toUInt32 &&& Int32.toUInt32 31)).toInt32) &&& (1431655765 : Int32))).toUInt32 >>> ((2 : Int32).toUInt32 &&& Int32.toUInt32 31)).toInt32) &&& (858993459 : Int32))).toUInt32 >>> ((4 : Int32).toUInt32 &&& Int32.toUInt32 31)).toInt32)) &&& (252645135 : Int32)).toUInt32 >>> ((8 : Int32).toUInt32 &&& Int32.toUInt32 31)).toInt32)).toUInt32 >>> ((16 : Int32).toUInt32 &&& Int32.toUInt32 31)).toInt32)) &&& (63 : Int32))
def Spans_daysOfTwo_rights_L7 (x1 : Int32) (σ : St) : Nat → Int32 → Int32 → Int32 → Option Int32
  | 0, _, _, _ => none
  | n + 1, x2, x3, x4 =>
    if ((2 : Int32) * (σ.1 16 4)) < x4 then
      some x2
    else
      if (10000 : Int32) ≤ x3 then
        some x2
      else
        Option.bind (Spans_nextTurn_rights x1 x3 σ) fun r28 =>
        Option.bind (Spans_whosOn_rights x1 x3 σ) fun r36 =>
        Option.bind (JI_bitCount r36 σ) fun r39 =>
        if r39 < (2 : Int32) then
          Spans_daysOfTwo_rights_L7 x1 σ n x2 r28 (x4 + (1 : Int32))
        else
          Spans_daysOfTwo_rights_L7 x1 σ n (x2 + (r28 - x3)) r28 (x4 + (1 : Int32))
def Spans_daysOfTwo_rights (x1 : Int32) (σ : St) : Option Int32 :=
  Spans_daysOfTwo_rights_L7 x1 σ FU (0 : Int32) (0 : Int32) (0 : Int32)
def P_two (x1 : Int32) (σ : St) : Option Int32 :=
  Option.bind (Rounds_has x1 σ) fun r5 =>
  if r5 = true then
    Option.bind (Spans_daysOfTwo_rights x1 σ) fun r18 =>
    some r18
  else
    some (-1 : Int32)
def Rounds_stopAt (x1 : Int32) (x2 : Int32) (σ : St) : Option Int32 :=
  if inb ((x1 * (8 : Int32)) + x2) 80 then
    some (σ.1 66 (Int32.toNatClampNeg ((x1 * (8 : Int32)) + x2)))
  else none
def Spans_firstWithin_stays_L7 (x1 : Int32) (x2 : Int32) (x3 : Int32) (x4 : Int32) (σ : St) : Nat → Int32 → Int32 → Option Int32
  | 0, _, _ => none
  | n + 1, x5, x6 =>
    if (σ.1 6 4) ≤ x6 then
      some x5
    else
      if inb x6 40 then
        if (σ.1 7 (Int32.toNatClampNeg x6)) = x1 then
          if inb x6 40 then
            if (σ.1 8 (Int32.toNatClampNeg x6)) = x2 then
              if inb x6 40 then
                if (σ.1 9 (Int32.toNatClampNeg x6)) < x3 then
                  Spans_firstWithin_stays_L7 x1 x2 x3 x4 σ n x5 (x6 + (1 : Int32))
                else
                  if inb x6 40 then
                    if (σ.1 10 (Int32.toNatClampNeg x6)) ≤ x4 then
                      if x5 = (-9 : Int32) then
                        if inb x6 40 then
                          Spans_firstWithin_stays_L7 x1 x2 x3 x4 σ n (σ.1 9 (Int32.toNatClampNeg x6)) (x6 + (1 : Int32))
                        else none
                      else
                        if inb x6 40 then
                          if x5 ≤ (σ.1 9 (Int32.toNatClampNeg x6)) then
                            Spans_firstWithin_stays_L7 x1 x2 x3 x4 σ n x5 (x6 + (1 : Int32))
                          else
                            if inb x6 40 then
                              Spans_firstWithin_stays_L7 x1 x2 x3 x4 σ n (σ.1 9 (Int32.toNatClampNeg x6)) (x6 + (1 : Int32))
                            else none
                        else none
                    else
                      Spans_firstWithin_stays_L7 x1 x2 x3 x4 σ n x5 (x6 + (1 : Int32))
                  else none
              else none
            else
              Spans_firstWithin_stays_L7 x1 x2 x3 x4 σ n x5 (x6 + (1 : Int32))
          else none
        else
          Spans_firstWithin_stays_L7 x1 x2 x3 x4 σ n x5 (x6 + (1 : Int32))
      else none
def Spans_firstWithin_stays (x1 : Int32) (x2 : Int32) (x3 : Int32) (x4 : Int32) (σ : St) : Option Int32 :=
  Spans_firstWithin_stays_L7 x1 x2 x3 x4 σ FU (-9 : Int32) (0 : Int32)
def P_walked_L42 (x1 : Int32) (x2 : Int32) (x3 : Int32) (x4 : Int32) (σ : St) : Nat → Int32 → Int32 → Option Int32
  | 0, _, _ => none
  | n + 1, x5, x6 =>
    if inb x1 10 then
      if (σ.1 65 (Int32.toNatClampNeg x1)) ≤ x6 then
        some (1 : Int32)
      else
        Option.bind (Rounds_stopAt x1 x6 σ) fun r68 =>
        Option.bind (Spans_firstWithin_stays x2 r68 (maI x3 (x5 + (1 : Int32))) x4 σ) fun r81 =>
        if r81 = (-9 : Int32) then
          some (0 : Int32)
        else
          P_walked_L42 x1 x2 x3 x4 σ n r81 (x6 + (1 : Int32))
    else none
def P_walked (x1 : Int32) (x2 : Int32) (x3 : Int32) (x4 : Int32) (σ : St) : Option Int32 :=
  Option.bind (Roll_hasBand x2 σ) fun r5 =>
  if r5 = true then
    Option.bind (Rounds_has x1 σ) fun r16 =>
    if r16 = true then
      Option.bind (P_areDays x3 x4 σ) fun r27 =>
      if r27 = true then
        P_walked_L42 x1 x2 x3 x4 σ FU (-1 : Int32) (0 : Int32)
      else
        some (-2 : Int32)
    else
      some (-1 : Int32)
  else
    some (-1 : Int32)
def Offers_add (x1 : Int32) (x2 : Int32) (x3 : Int32) (x4 : Int32) (x5 : Int32) (σ : St) : Option (Int32 × St) :=
  if (σ.1 67 6) < (9 : Int32) then
    if inb (σ.1 67 6) 9 then
      if inb (σ.1 67 6) 9 then
        if inb (σ.1 67 6) 9 then
          if inb (σ.1 67 6) 9 then
            if inb (σ.1 67 6) 9 then
              some ((σ.1 67 6), (wI (wI (wI (wI (wI (wI (wI σ 68 (Int32.toNatClampNeg (σ.1 67 6)) x1) 69 (Int32.toNatClampNeg (σ.1 67 6)) x2) 70 (Int32.toNatClampNeg (σ.1 67 6)) x3) 71 (Int32.toNatClampNeg (σ.1 67 6)) x4) 72 (Int32.toNatClampNeg (σ.1 67 6)) x5) 67 9 (0 : Int32)) 67 6 ((σ.1 67 6) + (1 : Int32))))
            else none
          else none
        else none
      else none
    else none
  else
    some ((-4 : Int32), σ)
def P_offer (x1 : Int32) (x2 : Int32) (x3 : Int32) (x4 : Int32) (x5 : Int32) (σ : St) : Option (Int32 × St) :=
  Option.bind (Roll_hasBand x1 σ) fun r5 =>
  if r5 = true then
    Option.bind (Roll_hasHouse x2 σ) fun r16 =>
    if r16 = true then
      Option.bind (Rounds_has x3 σ) fun r27 =>
      if r27 = true then
        Option.bind (P_isBelow x4 (1000000 : Int32) σ) fun r40 =>
        if r40 = true then
          if x5 < (-99999 : Int32) then
            some ((-2 : Int32), σ)
          else
            if x5 ≤ (99999 : Int32) then
              Option.bind (Offers_add x1 x2 x3 x4 x5 σ) fun q76 =>
              some (q76.1, q76.2)
            else
              some ((-2 : Int32), σ)
        else
          some ((-2 : Int32), σ)
      else
        some ((-1 : Int32), σ)
    else
      some ((-1 : Int32), σ)
  else
    some ((-1 : Int32), σ)
def Offers_gainOfSet_L4 (x1 : Int32) (σ : St) : Nat → Int32 → Int32 → Option Int32
  | 0, _, _ => none
  | n + 1, x2, x3 =>
    if (σ.1 67 6) ≤ x3 then
      some x2
    else
      if ((x1 >>> (x3 &&& 31)) &&& (1 : Int32)) = 0 then
        Offers_gainOfSet_L4 x1 σ n x2 (x3 + (1 : Int32))
      else
        if inb x3 9 then
          Offers_gainOfSet_L4 x1 σ n (x2 + (σ.1 72 (Int32.toNatClampNeg x3))) (x3 + (1 : Int32))
        else none
def Offers_gainOfSet (x1 : Int32) (σ : St) : Option Int32 :=
  Offers_gainOfSet_L4 x1 σ FU (0 : Int32) (0 : Int32)
def Offers_mayBe_L35 (x1 : Int32) : Nat → Int32 → Int32 → Int32 → St → Option (Bool × St)
  | 0, _, _, _, _ => none
  | n + 1, x3, x4, x5, σ =>
    if (σ.1 67 6) ≤ x5 then
      some (true, σ)
    else
      if ((x1 >>> (x5 &&& 31)) &&& (1 : Int32)) = 0 then
        Offers_mayBe_L35 x1 n x3 x4 (x5 + (1 : Int32)) σ
      else
        if inb x5 9 then
          if ((x3 >>> ((σ.1 68 (Int32.toNatClampNeg x5)) &&& 31)) &&& (1 : Int32)) = 0 then
            if inb x5 9 then
              if ((x4 >>> ((σ.1 70 (Int32.toNatClampNeg x5)) &&& 31)) &&& (1 : Int32)) = 0 then
                if inb x5 9 then
                  if inb x5 9 then
                    if inb x5 9 then
                      if inb (σ.1 69 (Int32.toNatClampNeg x5)) 4 then
                        if inb x5 9 then
                          if inb (σ.1 69 (Int32.toNatClampNeg x5)) 4 then
                            if inb x5 9 then
                              if inb (σ.1 69 (Int32.toNatClampNeg x5)) 4 then
                                if inb x5 9 then
                                  if inb (σ.1 69 (Int32.toNatClampNeg x5)) 4 then
                                    if ((wI σ 73 (Int32.toNatClampNeg (σ.1 69 (Int32.toNatClampNeg x5))) ((σ.1 73 (Int32.toNatClampNeg (σ.1 69 (Int32.toNatClampNeg x5)))) + (σ.1 71 (Int32.toNatClampNeg x5)))).1 73 (Int32.toNatClampNeg (σ.1 69 (Int32.toNatClampNeg x5)))) ≤ (σ.1 5 (Int32.toNatClampNeg (σ.1 69 (Int32.toNatClampNeg x5)))) then
                                      Offers_mayBe_L35 x1 n (x3 ||| ((1 : Int32) <<< ((σ.1 68 (Int32.toNatClampNeg x5)) &&& 31))) (x4 ||| ((1 : Int32) <<< ((σ.1 70 (Int32.toNatClampNeg x5)) &&& 31))) (x5 + (1 : Int32)) (wI σ 73 (Int32.toNatClampNeg (σ.1 69 (Int32.toNatClampNeg x5))) ((σ.1 73 (Int32.toNatClampNeg (σ.1 69 (Int32.toNatClampNeg x5)))) + (σ.1 71 (Int32.toNatClampNeg x5))))
                                    else
                                      some (false, (wI σ 73 (Int32.toNatClampNeg (σ.1 69 (Int32.toNatClampNeg x5))) ((σ.1 73 (Int32.toNatClampNeg (σ.1 69 (Int32.toNatClampNeg x5)))) + (σ.1 71 (Int32.toNatClampNeg x5)))))
                                  else none
                                else none
                              else none
                            else none
                          else none
                        else none
                      else none
                    else none
                  else none
                else none
              else
                some (false, σ)
            else none
          else
            some (false, σ)
        else none
def Offers_mayBe_L8 (x1 : Int32) (x3 : Int32) (x4 : Int32) : Nat → Int32 → St → Option (Bool × St)
  | 0, _, _ => none
  | n + 1, x5, σ =>
    if (4 : Int32) ≤ x5 then
      Offers_mayBe_L35 x1 FU x3 x4 (0 : Int32) σ
    else
      if inb x5 4 then
        Offers_mayBe_L8 x1 x3 x4 n (x5 + (1 : Int32)) (wI σ 73 (Int32.toNatClampNeg x5) (0 : Int32))
      else none
def Offers_mayBe (x1 : Int32) (σ : St) : Option (Bool × St) :=
  Offers_mayBe_L8 x1 (0 : Int32) (0 : Int32) FU (0 : Int32) σ
def Offers_plan_L20  : Nat → Int32 → St → Option St
  | 0, _, _ => none
  | n + 1, x2, σ =>
    if ((1 : Int32) <<< ((σ.1 67 6) &&& 31)) ≤ x2 then
      some (wI σ 67 9 (1 : Int32))
    else
      Option.bind (Offers_gainOfSet x2 σ) fun r32 =>
      if r32 ≤ (σ.1 67 8) then
        Offers_plan_L20 n (x2 + (1 : Int32)) σ
      else
        Option.bind (Offers_mayBe x2 σ) fun q47 =>
        if q47.1 = true then
          Offers_plan_L20 n (x2 + (1 : Int32)) (wI (wI q47.2 67 7 x2) 67 8 r32)
        else
          Offers_plan_L20 n (x2 + (1 : Int32)) q47.2
def Offers_plan  (σ : St) : Option St :=
  if (σ.1 67 9) = 0 then
    Offers_plan_L20 FU (1 : Int32) (wI (wI σ 67 7 (0 : Int32)) 67 8 (0 : Int32))
  else
    some σ
def P_best (x1 : Int32) (σ : St) : Option (Int32 × St) :=
  Option.bind (P_isBelow x1 (2 : Int32) σ) fun r2 =>
  if r2 = true then
    Option.bind (Offers_plan σ) fun q19 =>
    if x1 = 0 then
      some ((q19.1 67 7), q19)
    else
      some ((q19.1 67 8), q19)
  else
    some ((-2 : Int32), σ)
def P_judge (x1 : Int32) (σ : St) : Option (Int32 × St) :=
  Option.bind (P_isBelow x1 ((1 : Int32) <<< ((σ.1 67 6) &&& 31)) σ) fun r10 =>
  if r10 = true then
    Option.bind (Offers_mayBe x1 σ) fun q28 =>
    if q28.1 = true then
      some ((1 : Int32), q28.2)
    else
      some ((0 : Int32), q28.2)
  else
    some ((-2 : Int32), σ)
def Sheets_renew_L17 (x1 : Int32) (x3 : Int32) : Nat → Int32 → St → Option St
  | 0, _, _ => none
  | n + 1, x4, σ =>
    if x3 ≤ x4 then
      some σ
    else
      if inb ((x1 * (60 : Int32)) + x4) 240 then
        Sheets_renew_L17 x1 x3 n (x4 + (1 : Int32)) (wI σ 75 (Int32.toNatClampNeg ((x1 * (60 : Int32)) + x4)) (0 : Int32))
      else none
def Sheets_renew (x1 : Int32) (x2 : Int32) (x3 : Int32) (σ : St) : Option St :=
  if inb x1 4 then
    if inb x1 4 then
      Sheets_renew_L17 x1 x3 FU (0 : Int32) (wI (wI σ 76 (Int32.toNatClampNeg x1) x2) 77 (Int32.toNatClampNeg x1) x3)
    else none
  else none
def P_sheet (x1 : Int32) (x2 : Int32) (x3 : Int32) (σ : St) : Option (Int32 × St) :=
  Option.bind (Sheets_has x1 (wI σ 0 13 (0 : Int32))) fun r10 =>
  if r10 = true then
    Option.bind (P_isBelow x2 (3 : Int32) (wI σ 0 13 (0 : Int32))) fun r20 =>
    if r20 = true then
      if x3 ≤ (60 : Int32) then
        if 0 ≤ x3 then
          Option.bind (Sheets_renew x1 x2 x3 (wI σ 0 13 (0 : Int32))) fun q52 =>
          some ((1 : Int32), q52)
        else
          Option.bind (P_faulted (4 : Int32) (wI σ 0 13 (0 : Int32))) fun q41 =>
          some (q41.1, q41.2)
      else
        some ((-2 : Int32), (wI σ 0 13 (0 : Int32)))
    else
      some ((-2 : Int32), (wI σ 0 13 (0 : Int32)))
  else
    some ((-1 : Int32), (wI σ 0 13 (0 : Int32)))
def P_lose (x1 : Int32) (σ : St) : Option (Int32 × St) :=
  Option.bind (Sheets_has x1 σ) fun r5 =>
  if r5 = true then
    Option.bind (Sheets_isNothing x1 σ) fun r18 =>
    if r18 = true then
      if inb x1 4 then
        some ((0 : Int32), (wI σ 77 (Int32.toNatClampNeg x1) (-9 : Int32)))
      else none
    else
      if inb x1 4 then
        some ((1 : Int32), (wI σ 77 (Int32.toNatClampNeg x1) (-9 : Int32)))
      else none
  else
    some ((-1 : Int32), σ)
def Sheets_cutTo (x0 : Int32) (x1 : Int32) (σ : St) : Option Int32 :=
  if x0 = (0 : Int32) then
    some ((Int32.toInt8 x1).toInt32)
  else
    if x0 = (1 : Int32) then
      some ((Int32.toInt16 x1).toInt32)
    else
      some x1
def Sheets_write (x1 : Int32) (x2 : Int32) (x3 : Int32) (σ : St) : Option St :=
  if inb x1 4 then
    Option.bind (Sheets_cutTo (σ.1 76 (Int32.toNatClampNeg x1)) x3 σ) fun r17 =>
    if inb ((x1 * (60 : Int32)) + x2) 240 then
      some (wI σ 75 (Int32.toNatClampNeg ((x1 * (60 : Int32)) + x2)) r17)
    else none
  else none
def P_put (x1 : Int32) (x2 : Int32) (x3 : Int32) (σ : St) : Option (Int32 × St) :=
  Option.bind (Sheets_has x1 (wI σ 0 13 (0 : Int32))) fun r10 =>
  if r10 = true then
    Option.bind (Sheets_isNothing x1 (wI σ 0 13 (0 : Int32))) fun r23 =>
    if r23 = true then
      Option.bind (P_faulted (1 : Int32) (wI σ 0 13 (0 : Int32))) fun q31 =>
      some (q31.1, q31.2)
    else
      if inb x1 4 then
        Option.bind (P_isBelow x2 (σ.1 77 (Int32.toNatClampNeg x1)) (wI σ 0 13 (0 : Int32))) fun r45 =>
        if r45 = true then
          Option.bind (Sheets_write x1 x2 x3 (wI σ 0 13 (0 : Int32))) fun q64 =>
          some ((1 : Int32), q64)
        else
          Option.bind (P_faulted (3 : Int32) (wI σ 0 13 (0 : Int32))) fun q53 =>
          some (q53.1, q53.2)
      else none
  else
    some ((-1 : Int32), (wI σ 0 13 (0 : Int32)))
def P_cell (x1 : Int32) (x2 : Int32) (x3 : Int32) (σ : St) : Option (Int64 × St) :=
  Option.bind (Sheets_has x1 (wI σ 0 13 (0 : Int32))) fun r10 =>
  if r10 = true then
    Option.bind (P_isBelow x3 (3 : Int32) (wI σ 0 13 (0 : Int32))) fun r18 =>
    if r18 = true then
      Option.bind (Sheets_takingFault x1 x3 x2 (1 : Int64) (wI σ 0 13 (0 : Int32))) fun r37 =>
      if r37 = 0 then
        Option.bind (Sheets_valueAt x1 x2 (wI (wI σ 0 13 (0 : Int32)) 0 13 r37)) fun r56 =>
        some ((Int32.toInt64 r56), (wI (wI σ 0 13 (0 : Int32)) 0 13 r37))
      else
        some ((-9223372036854775808 : Int64), (wI (wI σ 0 13 (0 : Int32)) 0 13 r37))
    else
      some ((-9223372036854775808 : Int64), (wI σ 0 13 (0 : Int32)))
  else
    some ((-9223372036854775808 : Int64), (wI σ 0 13 (0 : Int32)))
def Sheets_carry (x1 : Int32) (x2 : Int32) (x3 : Int32) (x4 : Int32) (x5 : Int32) (σ : St) : Option St :=
  if cpok ((x1 * (60 : Int32)) + x2) ((x3 * (60 : Int32)) + x4) x5 240 240 then
    some (wA σ 75 (va_cpy (σ.1 75) (σ.1 75) (Int32.toNatClampNeg ((x1 * (60 : Int32)) + x2)) (Int32.toNatClampNeg ((x3 * (60 : Int32)) + x4)) (Int32.toNatClampNeg x5)))
  else none
def P_copy (x1 : Int32) (x2 : Int32) (x3 : Int32) (x4 : Int32) (x5 : Int32) (σ : St) : Option (Int32 × St) :=
  Option.bind (Sheets_has x1 (wI σ 0 13 (0 : Int32))) fun r10 =>
  if r10 = true then
    Option.bind (Sheets_has x3 (wI σ 0 13 (0 : Int32))) fun r21 =>
    if r21 = true then
      Option.bind (Sheets_isNothing x1 (wI σ 0 13 (0 : Int32))) fun r34 =>
      if r34 = true then
        Option.bind (P_faulted (1 : Int32) (wI σ 0 13 (0 : Int32))) fun q53 =>
        some (q53.1, q53.2)
      else
        Option.bind (Sheets_isNothing x3 (wI σ 0 13 (0 : Int32))) fun r45 =>
        if r45 = true then
          Option.bind (P_faulted (1 : Int32) (wI σ 0 13 (0 : Int32))) fun q53 =>
          some (q53.1, q53.2)
        else
          if inb x1 4 then
            if inb x3 4 then
              if (σ.1 76 (Int32.toNatClampNeg x1)) = (σ.1 76 (Int32.toNatClampNeg x3)) then
                Option.bind (Sheets_hasCells x1 x2 (Int32.toInt64 x5) (wI σ 0 13 (0 : Int32))) fun r93 =>
                if r93 = true then
                  Option.bind (Sheets_hasCells x3 x4 (Int32.toInt64 x5) (wI σ 0 13 (0 : Int32))) fun r109 =>
                  if r109 = true then
                    Option.bind (Sheets_carry x1 x2 x3 x4 x5 (wI σ 0 13 (0 : Int32))) fun q132 =>
                    some (x5, q132)
                  else
                    Option.bind (P_faulted (3 : Int32) (wI σ 0 13 (0 : Int32))) fun q117 =>
                    some (q117.1, q117.2)
                else
                  Option.bind (P_faulted (3 : Int32) (wI σ 0 13 (0 : Int32))) fun q117 =>
                  some (q117.1, q117.2)
              else
                Option.bind (P_faulted (2 : Int32) (wI σ 0 13 (0 : Int32))) fun q80 =>
                some (q80.1, q80.2)
            else none
          else none
    else
      some ((-1 : Int32), (wI σ 0 13 (0 : Int32)))
  else
    some ((-1 : Int32), (wI σ 0 13 (0 : Int32)))
def P_isThere (x1 : Int32) (x2 : Int32) (σ : St) : Option Bool :=
  if x1 = 0 then
    Option.bind (Packs_has x2 σ) fun r9 =>
    some r9
  else
    Option.bind (P_isBelow x2 (σ.1 49 7) σ) fun r23 =>
    some r23
def P_leave (x1 : Int32) (σ : St) : Option St :=
  some (wI σ 0 14 (((31 : Int32) * (σ.1 0 14)) + x1))
def P_bodyOfDoor (x1 : Int32) (σ : St) : Option (Int32 × St) :=
  Option.bind (P_leave (6 : Int32) σ) fun q3 =>
  if inb x1 20 then
    some ((q3.1 53 (Int32.toNatClampNeg x1)), q3)
  else none
def P_bodyOfLeft (x1 : Int32) (σ : St) : Option (Int32 × St) :=
  Option.bind (P_leave (7 : Int32) σ) fun q3 =>
  Option.bind (P_bodyOfDoor x1 q3) fun q8 =>
  some ((q8.1 + (1 : Int32)), q8.2)
def P_bodyOfRags (x1 : Int32) (σ : St) : Option (Int32 × St) :=
  Option.bind (P_leave (8 : Int32) σ) fun q3 =>
  Option.bind (P_bodyOfLeft x1 q3) fun q8 =>
  Option.bind (P_bodyOfDoor x1 q8.2) fun q15 =>
  some ((q8.1 + q15.1), q15.2)
def P_tellingOfDebt (x1 : Int32) (σ : St) : Option (Int32 × St) :=
  if inb x1 20 then
    if (σ.1 50 (Int32.toNatClampNeg x1)) = (0 : Int32) then
      Option.bind (P_bodyOfDoor x1 σ) fun q38 =>
      some (q38.1, q38.2)
    else
      if (σ.1 50 (Int32.toNatClampNeg x1)) = (1 : Int32) then
        Option.bind (P_bodyOfLeft x1 σ) fun q44 =>
        some (q44.1, q44.2)
      else
        Option.bind (P_bodyOfRags x1 σ) fun q50 =>
        some (q50.1, q50.2)
  else none
def P_bodyOfPack (x1 : Int32) (σ : St) : Option (Int32 × St) :=
  Option.bind (P_leave (1 : Int32) σ) fun q2 =>
  Option.bind (Ledger_countOf x1 q2) fun r10 =>
  some (r10, q2)
def P_bodyOfRound (x1 : Int32) (σ : St) : Option (Int32 × St) :=
  Option.bind (P_leave (2 : Int32) σ) fun q2 =>
  Option.bind (P_bodyOfPack x1 q2) fun q7 =>
  some ((q7.1 + (10 : Int32)), q7.2)
def P_bodyOfBought (x1 : Int32) (σ : St) : Option (Int32 × St) :=
  Option.bind (P_leave (3 : Int32) σ) fun q2 =>
  Option.bind (P_bodyOfRound x1 q2) fun q7 =>
  Option.bind (P_bodyOfPack x1 q7.2) fun q14 =>
  some ((q7.1 + q14.1), q14.2)
def P_tellingOfPack (x1 : Int32) (σ : St) : Option (Int32 × St) :=
  if inb x1 12 then
    if (σ.1 22 (Int32.toNatClampNeg x1)) = (0 : Int32) then
      Option.bind (P_bodyOfPack x1 σ) fun q38 =>
      some (q38.1, q38.2)
    else
      if (σ.1 22 (Int32.toNatClampNeg x1)) = (1 : Int32) then
        Option.bind (P_bodyOfRound x1 σ) fun q44 =>
        some (q44.1, q44.2)
      else
        Option.bind (P_bodyOfBought x1 σ) fun q50 =>
        some (q50.1, q50.2)
  else none
def P_tell (x1 : Int32) (x2 : Int32) (σ : St) : Option (Int32 × St) :=
  Option.bind (P_isBelow x1 (2 : Int32) σ) fun r2 =>
  if r2 = true then
    Option.bind (P_isThere x1 x2 σ) fun r14 =>
    if r14 = true then
      if x1 = 0 then
        Option.bind (P_tellingOfPack x2 σ) fun q28 =>
        some (q28.1, q28.2)
      else
        Option.bind (P_tellingOfDebt x2 σ) fun q36 =>
        some (q36.1, q36.2)
    else
      some ((-1 : Int32), σ)
  else
    some ((-2 : Int32), σ)
def P_show (x1 : Int32) (σ : St) : Option (Int32 × St) :=
  Option.bind (Packs_has x1 σ) fun r5 =>
  if r5 = true then
    if inb x1 12 then
      if (σ.1 22 (Int32.toNatClampNeg x1)) = (2 : Int32) then
        Option.bind (P_leave (5 : Int32) σ) fun q42 =>
        some ((60 : Int32), q42)
      else
        Option.bind (P_leave (4 : Int32) σ) fun q42 =>
        some (x1, q42)
    else none
  else
    some ((-1 : Int32), σ)
def P_taken (x1 : Int32) (x2 : Int32) (x3 : Int32) (σ : St) : Option (Int32 × St) :=
  Option.bind (P_isBelow x1 (2 : Int32) (wI σ 0 13 (0 : Int32))) fun r7 =>
  if r7 = true then
    Option.bind (P_isBelow x3 (3 : Int32) (wI σ 0 13 (0 : Int32))) fun r15 =>
    if r15 = true then
      Option.bind (P_isThere x1 x2 (wI σ 0 13 (0 : Int32))) fun r27 =>
      if r27 = true then
        if x1 = 0 then
          if inb x2 12 then
            if (σ.1 22 (Int32.toNatClampNeg x2)) < x3 then
              Option.bind (P_faulted (2 : Int32) (wI σ 0 13 (0 : Int32))) fun q74 =>
              some (q74.1, q74.2)
            else
              some ((1 : Int32), (wI σ 0 13 (0 : Int32)))
          else none
        else
          if inb x2 20 then
            if (σ.1 50 (Int32.toNatClampNeg x2)) < x3 then
              Option.bind (P_faulted (2 : Int32) (wI σ 0 13 (0 : Int32))) fun q74 =>
              some (q74.1, q74.2)
            else
              some ((1 : Int32), (wI σ 0 13 (0 : Int32)))
          else none
      else
        some ((-1 : Int32), (wI σ 0 13 (0 : Int32)))
    else
      some ((-2 : Int32), (wI σ 0 13 (0 : Int32)))
  else
    some ((-2 : Int32), (wI σ 0 13 (0 : Int32)))
def P_trace  (σ : St) : Option Int32 :=
  some (σ.1 0 14)
def P_fault  (σ : St) : Option Int32 :=
  some (σ.1 0 13)
def P_many (x1 : Int32) (σ : St) : Option Int32 :=
  if x1 = (0 : Int32) then
    some (σ.1 1 4)
  else
    if x1 = (1 : Int32) then
      some (σ.1 1 5)
    else
      if x1 = (2 : Int32) then
        some (σ.1 1 6)
      else
        if x1 = (3 : Int32) then
          some (σ.1 6 4)
        else
          if x1 = (4 : Int32) then
            some (σ.1 21 3)
          else
            if x1 = (5 : Int32) then
              some (σ.1 28 6)
            else
              if x1 = (6 : Int32) then
                some (σ.1 40 6)
              else
                if x1 = (7 : Int32) then
                  some (σ.1 49 7)
                else
                  if x1 = (8 : Int32) then
                    some (σ.1 64 2)
                  else
                    if x1 = (9 : Int32) then
                      some (σ.1 67 6)
                    else
                      some (-2 : Int32)
