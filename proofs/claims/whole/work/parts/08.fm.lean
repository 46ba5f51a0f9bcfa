def M_in (x0 : Int64) (x2 : Int64) (x4 : Int64) (σ : St) : Option Bool :=
  if x0 < x2 then
    some false
  else
    if x4 < x0 then
      some false
    else
      some true
def M_isLand (x0 : Int32) (σ : St) : Option Bool :=
  Option.bind (M_in (Int32.toInt64 x0) (0 : Int64) (5 : Int64) σ) fun r6 =>
  some r6
def M_place (x1 : Int32) (σ : St) : Option (Int32 × St) :=
  Option.bind (M_isLand x1 σ) fun r1 =>
  if r1 = true then
    if (σ.1 0 1) = (16 : Int32) then
      some ((-4 : Int32), σ)
    else
      if inb (σ.1 0 1) 16 then
        some ((((σ.1 0 1) + (1 : Int32)) - (1 : Int32)), (wI (wI σ 1 (Int32.toNatClampNeg (σ.1 0 1)) x1) 0 1 ((σ.1 0 1) + (1 : Int32))))
      else none
  else
    some ((-2 : Int32), σ)
def M_band (x1 : Int32) (x2 : Int32) (σ : St) : Option (Int32 × St) :=
  Option.bind (M_in (Int32.toInt64 x1) (0 : Int64) (9 : Int64) σ) fun r6 =>
  if r6 = true then
    Option.bind (M_in (Int32.toInt64 x2) (0 : Int64) (9 : Int64) σ) fun r18 =>
    if r18 = true then
      if (σ.1 0 2) = (6 : Int32) then
        some ((-4 : Int32), σ)
      else
        if inb (σ.1 0 2) 6 then
          if inb (σ.1 0 2) 6 then
            some ((((σ.1 0 2) + (1 : Int32)) - (1 : Int32)), (wI (wI (wI σ 2 (Int32.toNatClampNeg (σ.1 0 2)) x1) 3 (Int32.toNatClampNeg (σ.1 0 2)) x2) 0 2 ((σ.1 0 2) + (1 : Int32))))
          else none
        else none
    else
      some ((-2 : Int32), σ)
  else
    some ((-2 : Int32), σ)
def M_house (x1 : Int32) (σ : St) : Option (Int32 × St) :=
  Option.bind (M_in (Int32.toInt64 x1) (0 : Int64) (1000000 : Int64) σ) fun r6 =>
  if r6 = true then
    if (σ.1 0 3) = (4 : Int32) then
      some ((-4 : Int32), σ)
    else
      if inb (σ.1 0 3) 4 then
        some ((((σ.1 0 3) + (1 : Int32)) - (1 : Int32)), (wI (wI σ 4 (Int32.toNatClampNeg (σ.1 0 3)) x1) 0 3 ((σ.1 0 3) + (1 : Int32))))
      else none
  else
    some ((-2 : Int32), σ)
def M_noBand (x1 : Int32) (σ : St) : Option Bool :=
  Option.bind (M_in (Int32.toInt64 x1) (0 : Int64) ((Int32.toInt64 (σ.1 0 2)) - (1 : Int64)) σ) fun r10 =>
  if r10 = true then
    some false
  else
    some true
def M_noPlace (x1 : Int32) (σ : St) : Option Bool :=
  Option.bind (M_in (Int32.toInt64 x1) (0 : Int64) ((Int32.toInt64 (σ.1 0 1)) - (1 : Int64)) σ) fun r10 =>
  if r10 = true then
    some false
  else
    some true
def M_isDay (x0 : Int32) (σ : St) : Option Bool :=
  Option.bind (M_in (Int32.toInt64 x0) (0 : Int64) (9999 : Int64) σ) fun r6 =>
  some r6
def M_areDays (x0 : Int32) (x1 : Int32) (σ : St) : Option Bool :=
  Option.bind (M_isDay x0 σ) fun r1 =>
  if r1 = true then
    Option.bind (M_in (Int32.toInt64 x1) (Int32.toInt64 x0) (9999 : Int64) σ) fun r14 =>
    if r14 = true then
      some true
    else
      some false
  else
    some false
def M_walk_L33 (x1 : Int32) (x2 : Int32) (x3 : Int32) (x4 : Int32) (σ : St) : Nat → Int32 → Option (Int32 × St)
  | 0, _ => none
  | n + 1, x5 =>
    if (σ.1 0 8) ≤ x5 then
      if (σ.1 0 8) = (40 : Int32) then
        some ((-4 : Int32), σ)
      else
        if inb (σ.1 0 8) 40 then
          if inb (σ.1 0 8) 40 then
            if inb (σ.1 0 8) 40 then
              if inb (σ.1 0 8) 40 then
                some (((σ.1 0 8) + (1 : Int32)), (wI (wI (wI (wI (wI σ 5 (Int32.toNatClampNeg (σ.1 0 8)) x1) 6 (Int32.toNatClampNeg (σ.1 0 8)) x2) 7 (Int32.toNatClampNeg (σ.1 0 8)) x3) 8 (Int32.toNatClampNeg (σ.1 0 8)) x4) 0 8 ((σ.1 0 8) + (1 : Int32))))
              else none
            else none
          else none
        else none
    else
      if inb x5 40 then
        if (σ.1 5 (Int32.toNatClampNeg x5)) = x1 then
          if inb x5 40 then
            if (σ.1 8 (Int32.toNatClampNeg x5)) < x3 then
              M_walk_L33 x1 x2 x3 x4 σ n (x5 + (1 : Int32))
            else
              if inb x5 40 then
                if x4 < (σ.1 7 (Int32.toNatClampNeg x5)) then
                  M_walk_L33 x1 x2 x3 x4 σ n (x5 + (1 : Int32))
                else
                  some ((-3 : Int32), σ)
              else none
          else none
        else
          M_walk_L33 x1 x2 x3 x4 σ n (x5 + (1 : Int32))
      else none
def M_walk (x1 : Int32) (x2 : Int32) (x3 : Int32) (x4 : Int32) (σ : St) : Option (Int32 × St) :=
  Option.bind (M_noBand x1 σ) fun r2 =>
  if r2 = true then
    some ((-1 : Int32), σ)
  else
    Option.bind (M_noPlace x2 σ) fun r10 =>
    if r10 = true then
      some ((-1 : Int32), σ)
    else
      Option.bind (M_areDays x3 x4 σ) fun r21 =>
      if r21 = true then
        M_walk_L33 x1 x2 x3 x4 σ FU (0 : Int32)
      else
        some ((-2 : Int32), σ)
def M_placeAt_L2 (x1 : Int32) (x2 : Int32) (σ : St) : Nat → Int32 → Option Int32
  | 0, _ => none
  | n + 1, x3 =>
    if (σ.1 0 8) ≤ x3 then
      some (-9 : Int32)
    else
      if inb x3 40 then
        if (σ.1 5 (Int32.toNatClampNeg x3)) = x1 then
          if inb x3 40 then
            if inb x3 40 then
              Option.bind (M_in (Int32.toInt64 x2) (Int32.toInt64 (σ.1 7 (Int32.toNatClampNeg x3))) (Int32.toInt64 (σ.1 8 (Int32.toNatClampNeg x3))) σ) fun r36 =>
              if r36 = true then
                if inb x3 40 then
                  some (σ.1 6 (Int32.toNatClampNeg x3))
                else none
              else
                M_placeAt_L2 x1 x2 σ n (x3 + (1 : Int32))
            else none
          else none
        else
          M_placeAt_L2 x1 x2 σ n (x3 + (1 : Int32))
      else none
def M_placeAt (x1 : Int32) (x2 : Int32) (σ : St) : Option Int32 :=
  M_placeAt_L2 x1 x2 σ FU (0 : Int32)
def M_day (x1 : Int32) (x2 : Int32) (σ : St) : Option Int32 :=
  Option.bind (M_noBand x1 σ) fun r2 =>
  if r2 = true then
    some (-1 : Int32)
  else
    Option.bind (M_isDay x2 σ) fun r11 =>
    if r11 = true then
      Option.bind (M_placeAt x1 x2 σ) fun r20 =>
      some r20
    else
      some (-2 : Int32)
def M_greater (x0 : Int32) (x1 : Int32) (σ : St) : Option Int32 :=
  if x0 ≤ x1 then
    some x1
  else
    some x0
def M_lesser (x0 : Int32) (x1 : Int32) (σ : St) : Option Int32 :=
  if x1 ≤ x0 then
    some x1
  else
    some x0
def M_meet_L52 (x1 : Int32) (x2 : Int32) (x3 : Int32) (x5 : Int32) (σ : St) (k40 : Int32 → Int32 → Option Int32) : Nat → Int32 → Int32 → Option Int32
  | 0, _, _ => none
  | n + 1, x4, x6 =>
    if (σ.1 0 8) ≤ x6 then
      k40 x4 (x5 + (1 : Int32))
    else
      if inb x5 40 then
        if (σ.1 5 (Int32.toNatClampNeg x5)) = x1 then
          if inb x6 40 then
            if (σ.1 5 (Int32.toNatClampNeg x6)) = x2 then
              if inb x5 40 then
                if inb x6 40 then
                  if (σ.1 6 (Int32.toNatClampNeg x5)) = (σ.1 6 (Int32.toNatClampNeg x6)) then
                    if inb x5 40 then
                      if inb x6 40 then
                        Option.bind (M_greater (σ.1 7 (Int32.toNatClampNeg x5)) (σ.1 7 (Int32.toNatClampNeg x6)) σ) fun r115 =>
                        Option.bind (M_greater x3 r115 σ) fun r118 =>
                        if inb x5 40 then
                          if inb x6 40 then
                            Option.bind (M_lesser (σ.1 8 (Int32.toNatClampNeg x5)) (σ.1 8 (Int32.toNatClampNeg x6)) σ) fun r139 =>
                            if r139 < r118 then
                              M_meet_L52 x1 x2 x3 x5 σ k40 n x4 (x6 + (1 : Int32))
                            else
                              if x4 < 0 then
                                M_meet_L52 x1 x2 x3 x5 σ k40 n r118 (x6 + (1 : Int32))
                              else
                                if x4 ≤ r118 then
                                  M_meet_L52 x1 x2 x3 x5 σ k40 n x4 (x6 + (1 : Int32))
                                else
                                  M_meet_L52 x1 x2 x3 x5 σ k40 n r118 (x6 + (1 : Int32))
                          else none
                        else none
                      else none
                    else none
                  else
                    M_meet_L52 x1 x2 x3 x5 σ k40 n x4 (x6 + (1 : Int32))
                else none
              else none
            else
              M_meet_L52 x1 x2 x3 x5 σ k40 n x4 (x6 + (1 : Int32))
          else none
        else
          M_meet_L52 x1 x2 x3 x5 σ k40 n x4 (x6 + (1 : Int32))
      else none
def M_meet_L40 (x1 : Int32) (x2 : Int32) (x3 : Int32) (σ : St) : Nat → Int32 → Int32 → Option Int32
  | 0, _, _ => none
  | n + 1, x4, x5 =>
    if (σ.1 0 8) ≤ x5 then
      some x4
    else
      M_meet_L52 x1 x2 x3 x5 σ (fun y4 y5 => M_meet_L40 x1 x2 x3 σ n y4 y5) FU x4 (0 : Int32)
def M_meet (x1 : Int32) (x2 : Int32) (x3 : Int32) (σ : St) : Option Int32 :=
  Option.bind (M_noBand x1 σ) fun r2 =>
  if r2 = true then
    some (-1 : Int32)
  else
    Option.bind (M_noBand x2 σ) fun r10 =>
    if r10 = true then
      some (-1 : Int32)
    else
      Option.bind (M_isDay x3 σ) fun r19 =>
      if r19 = true then
        if x1 = x2 then
          some (-2 : Int32)
        else
          M_meet_L40 x1 x2 x3 σ FU (-9 : Int32) (0 : Int32)
      else
        some (-2 : Int32)
def M_noHouse (x1 : Int32) (σ : St) : Option Bool :=
  Option.bind (M_in (Int32.toInt64 x1) (0 : Int64) ((Int32.toInt64 (σ.1 0 3)) - (1 : Int64)) σ) fun r10 =>
  if r10 = true then
    some false
  else
    some true
def M_pack (x1 : Int32) (x2 : Int32) (x3 : Int32) (σ : St) : Option (Int32 × St) :=
  Option.bind (M_noBand x2 σ) fun r2 =>
  if r2 = true then
    some ((-1 : Int32), σ)
  else
    Option.bind (M_noHouse x3 σ) fun r10 =>
    if r10 = true then
      some ((-1 : Int32), σ)
    else
      Option.bind (M_in (Int32.toInt64 x1) (0 : Int64) (2 : Int64) σ) fun r24 =>
      if r24 = true then
        if (σ.1 0 13) = (12 : Int32) then
          some ((-4 : Int32), σ)
        else
          if inb (σ.1 0 13) 12 then
            if inb (σ.1 0 13) 12 then
              if inb (σ.1 0 13) 12 then
                some ((((σ.1 0 13) + (1 : Int32)) - (1 : Int32)), (wI (wI (wI (wI σ 9 (Int32.toNatClampNeg (σ.1 0 13)) x1) 10 (Int32.toNatClampNeg (σ.1 0 13)) x2) 11 (Int32.toNatClampNeg (σ.1 0 13)) x3) 0 13 ((σ.1 0 13) + (1 : Int32))))
              else none
            else none
          else none
      else
        some ((-2 : Int32), σ)
def M_noPack (x1 : Int32) (σ : St) : Option Bool :=
  Option.bind (M_in (Int32.toInt64 x1) (0 : Int64) ((Int32.toInt64 (σ.1 0 13)) - (1 : Int64)) σ) fun r10 =>
  if r10 = true then
    some false
  else
    some true
def M_isGood (x0 : Int32) (σ : St) : Option Bool :=
  Option.bind (M_in (Int32.toInt64 x0) (0 : Int64) (7 : Int64) σ) fun r6 =>
  some r6
def M_heldOf_L6 (x1 : Int32) (x2 : Int32) (x3 : Int32) (σ : St) : Nat → Int32 → Int32 → Option Int32
  | 0, _, _ => none
  | n + 1, x4, x5 =>
    if (σ.1 0 17) ≤ x5 then
      some x4
    else
      if inb x5 60 then
        if (σ.1 12 (Int32.toNatClampNeg x5)) = x1 then
          if inb x5 60 then
            if (σ.1 14 (Int32.toNatClampNeg x5)) = x2 then
              if inb x5 60 then
                if x3 < (σ.1 17 (Int32.toNatClampNeg x5)) then
                  M_heldOf_L6 x1 x2 x3 σ n x4 (x5 + (1 : Int32))
                else
                  if inb x5 60 then
                    if (2 : Int32) ≤ (σ.1 13 (Int32.toNatClampNeg x5)) then
                      if inb x5 60 then
                        M_heldOf_L6 x1 x2 x3 σ n (x4 + (-(σ.1 15 (Int32.toNatClampNeg x5)))) (x5 + (1 : Int32))
                      else none
                    else
                      if inb x5 60 then
                        M_heldOf_L6 x1 x2 x3 σ n (x4 + (σ.1 15 (Int32.toNatClampNeg x5))) (x5 + (1 : Int32))
                      else none
                  else none
              else none
            else
              M_heldOf_L6 x1 x2 x3 σ n x4 (x5 + (1 : Int32))
          else none
        else
          M_heldOf_L6 x1 x2 x3 σ n x4 (x5 + (1 : Int32))
      else none
def M_heldOf (x1 : Int32) (x2 : Int32) (x3 : Int32) (σ : St) : Option Int32 :=
  M_heldOf_L6 x1 x2 x3 σ FU (0 : Int32) (0 : Int32)
def M_addEntry_L75 (x1 : Int32) (x2 : Int32) (x3 : Int32) (x4 : Int32) (x5 : Int32) (x6 : Int32) (x7 : Int32) (σ : St) : Nat → Int32 → Option (Int32 × St)
  | 0, _ => none
  | n + 1, x8 =>
    if (σ.1 0 17) ≤ x8 then
      if x2 ≤ (1 : Int32) then
        if (σ.1 0 17) = (60 : Int32) then
          some ((-4 : Int32), σ)
        else
          if inb (σ.1 0 17) 60 then
            if inb (σ.1 0 17) 60 then
              if inb (σ.1 0 17) 60 then
                if inb (σ.1 0 17) 60 then
                  if x7 = 0 then
                    if inb (σ.1 0 17) 60 then
                      if inb (σ.1 0 17) 60 then
                        some ((((σ.1 0 17) + (1 : Int32)) - (1 : Int32)), (wI (wI (wI (wI (wI (wI (wI σ 12 (Int32.toNatClampNeg (σ.1 0 17)) x1) 13 (Int32.toNatClampNeg (σ.1 0 17)) x2) 14 (Int32.toNatClampNeg (σ.1 0 17)) x3) 15 (Int32.toNatClampNeg (σ.1 0 17)) x4) 16 (Int32.toNatClampNeg (σ.1 0 17)) (0 : Int32)) 17 (Int32.toNatClampNeg (σ.1 0 17)) x6) 0 17 ((σ.1 0 17) + (1 : Int32))))
                      else none
                    else none
                  else
                    if inb (σ.1 0 17) 60 then
                      if inb (σ.1 0 17) 60 then
                        some ((((σ.1 0 17) + (1 : Int32)) - (1 : Int32)), (wI (wI (wI (wI (wI (wI (wI σ 12 (Int32.toNatClampNeg (σ.1 0 17)) x1) 13 (Int32.toNatClampNeg (σ.1 0 17)) x2) 14 (Int32.toNatClampNeg (σ.1 0 17)) x3) 15 (Int32.toNatClampNeg (σ.1 0 17)) x4) 16 (Int32.toNatClampNeg (σ.1 0 17)) x5) 17 (Int32.toNatClampNeg (σ.1 0 17)) x6) 0 17 ((σ.1 0 17) + (1 : Int32))))
                      else none
                    else none
                else none
              else none
            else none
          else none
      else
        Option.bind (M_heldOf x1 x3 (9999 : Int32) σ) fun r127 =>
        if x4 ≤ r127 then
          if (σ.1 0 17) = (60 : Int32) then
            some ((-4 : Int32), σ)
          else
            if inb (σ.1 0 17) 60 then
              if inb (σ.1 0 17) 60 then
                if inb (σ.1 0 17) 60 then
                  if inb (σ.1 0 17) 60 then
                    if x7 = 0 then
                      if inb (σ.1 0 17) 60 then
                        if inb (σ.1 0 17) 60 then
                          some ((((σ.1 0 17) + (1 : Int32)) - (1 : Int32)), (wI (wI (wI (wI (wI (wI (wI σ 12 (Int32.toNatClampNeg (σ.1 0 17)) x1) 13 (Int32.toNatClampNeg (σ.1 0 17)) x2) 14 (Int32.toNatClampNeg (σ.1 0 17)) x3) 15 (Int32.toNatClampNeg (σ.1 0 17)) x4) 16 (Int32.toNatClampNeg (σ.1 0 17)) (0 : Int32)) 17 (Int32.toNatClampNeg (σ.1 0 17)) x6) 0 17 ((σ.1 0 17) + (1 : Int32))))
                        else none
                      else none
                    else
                      if inb (σ.1 0 17) 60 then
                        if inb (σ.1 0 17) 60 then
                          some ((((σ.1 0 17) + (1 : Int32)) - (1 : Int32)), (wI (wI (wI (wI (wI (wI (wI σ 12 (Int32.toNatClampNeg (σ.1 0 17)) x1) 13 (Int32.toNatClampNeg (σ.1 0 17)) x2) 14 (Int32.toNatClampNeg (σ.1 0 17)) x3) 15 (Int32.toNatClampNeg (σ.1 0 17)) x4) 16 (Int32.toNatClampNeg (σ.1 0 17)) x5) 17 (Int32.toNatClampNeg (σ.1 0 17)) x6) 0 17 ((σ.1 0 17) + (1 : Int32))))
                        else none
                      else none
                  else none
                else none
              else none
            else none
        else
          some ((-3 : Int32), σ)
    else
      if inb x8 60 then
        if (σ.1 12 (Int32.toNatClampNeg x8)) = x1 then
          if inb x8 60 then
            if (σ.1 17 (Int32.toNatClampNeg x8)) ≤ x6 then
              M_addEntry_L75 x1 x2 x3 x4 x5 x6 x7 σ n (x8 + (1 : Int32))
            else
              some ((-3 : Int32), σ)
          else none
        else
          M_addEntry_L75 x1 x2 x3 x4 x5 x6 x7 σ n (x8 + (1 : Int32))
      else none
def M_addEntry (x1 : Int32) (x2 : Int32) (x3 : Int32) (x4 : Int32) (x5 : Int32) (x6 : Int32) (σ : St) : Option (Int32 × St) :=
  Option.bind (M_in (Int32.toInt64 x2) (0 : Int64) (2 : Int64) σ) fun r6 =>
  Option.bind (M_in (Int32.toInt64 x2) (0 : Int64) (4 : Int64) σ) fun r17 =>
  if r17 = true then
    Option.bind (M_isGood x3 σ) fun r24 =>
    if r24 = true then
      Option.bind (M_in (Int32.toInt64 x4) (1 : Int64) (99 : Int64) σ) fun r37 =>
      if r37 = true then
        if r6 = true then
          Option.bind (M_in (Int32.toInt64 x5) (0 : Int64) (999 : Int64) σ) fun r55 =>
          if r55 = true then
            Option.bind (M_isDay x6 σ) fun r63 =>
            if r63 = true then
              M_addEntry_L75 x1 x2 x3 x4 x5 x6 (bi r6) σ FU (0 : Int32)
            else
              some ((-2 : Int32), σ)
          else
            some ((-2 : Int32), σ)
        else
          Option.bind (M_isDay x6 σ) fun r63 =>
          if r63 = true then
            M_addEntry_L75 x1 x2 x3 x4 x5 x6 (bi r6) σ FU (0 : Int32)
          else
            some ((-2 : Int32), σ)
      else
        some ((-2 : Int32), σ)
    else
      some ((-2 : Int32), σ)
  else
    some ((-2 : Int32), σ)
def M_entry (x1 : Int32) (x2 : Int32) (x3 : Int32) (x4 : Int32) (x5 : Int32) (x6 : Int32) (σ : St) : Option (Int32 × St) :=
  Option.bind (M_noPack x1 σ) fun r2 =>
  if r2 = true then
    some ((-1 : Int32), σ)
  else
    Option.bind (M_addEntry x1 x2 x3 x4 x5 x6 σ) fun q22 =>
    some (q22.1, q22.2)
def M_refused (x1 : Int32) (σ : St) : Option (Int32 × St) :=
  some (x1, (wI σ 0 0 (0 : Int32)))
def M_noSheet (x0 : Int32) (σ : St) : Option Bool :=
  Option.bind (M_in (Int32.toInt64 x0) (0 : Int64) (3 : Int64) σ) fun r6 =>
  if r6 = true then
    some false
  else
    some true
def M_isBeyond (x0 : Int32) (x1 : Int64) (x3 : Int32) (σ : St) : Option Bool :=
  if x0 < 0 then
    some true
  else
    if x1 < (0 : Int64) then
      some true
    else
      if (Int32.toInt64 x3) < ((Int32.toInt64 x0) + x1) then
        some true
      else
        some false
def M_failed (x1 : Int32) (σ : St) : Option (Int32 × St) :=
  some (((-10 : Int32) - x1), (wI σ 0 0 x1))
def M_barred (x1 : Int32) (x2 : Int32) (x3 : Int32) (x4 : Int64) (σ : St) : Option (Int32 × St) :=
  Option.bind (M_in (Int32.toInt64 x2) (0 : Int64) (2 : Int64) σ) fun r6 =>
  if r6 = true then
    if inb x1 4 then
      if (σ.1 59 (Int32.toNatClampNeg x1)) < 0 then
        if inb x1 4 then
          if 0 ≤ (σ.1 59 (Int32.toNatClampNeg x1)) then
            if x4 < (0 : Int64) then
              Option.bind (M_failed (4 : Int32) σ) fun q68 =>
              some (q68.1, q68.2)
            else
              if inb x1 4 then
                Option.bind (M_isBeyond x3 x4 (σ.1 59 (Int32.toNatClampNeg x1)) σ) fun r81 =>
                if r81 = true then
                  Option.bind (M_failed (3 : Int32) σ) fun q89 =>
                  some (q89.1, q89.2)
                else
                  some ((0 : Int32), σ)
              else none
          else
            Option.bind (M_failed (1 : Int32) σ) fun q55 =>
            some (q55.1, q55.2)
        else none
      else
        if inb x1 4 then
          if (σ.1 60 (Int32.toNatClampNeg x1)) = x2 then
            if inb x1 4 then
              if 0 ≤ (σ.1 59 (Int32.toNatClampNeg x1)) then
                if x4 < (0 : Int64) then
                  Option.bind (M_failed (4 : Int32) σ) fun q68 =>
                  some (q68.1, q68.2)
                else
                  if inb x1 4 then
                    Option.bind (M_isBeyond x3 x4 (σ.1 59 (Int32.toNatClampNeg x1)) σ) fun r81 =>
                    if r81 = true then
                      Option.bind (M_failed (3 : Int32) σ) fun q89 =>
                      some (q89.1, q89.2)
                    else
                      some ((0 : Int32), σ)
                  else none
              else
                Option.bind (M_failed (1 : Int32) σ) fun q55 =>
                some (q55.1, q55.2)
            else none
          else
            Option.bind (M_failed (2 : Int32) σ) fun q40 =>
            some (q40.1, q40.2)
        else none
    else none
  else
    Option.bind (M_refused (-2 : Int32) σ) fun q15 =>
    some (q15.1, q15.2)
def M_entriesOf_L4 (x1 : Int32) (σ : St) : Nat → Int32 → Int32 → Option Int32
  | 0, _, _ => none
  | n + 1, x2, x3 =>
    if (σ.1 0 17) ≤ x3 then
      some x2
    else
      if inb x3 60 then
        if (σ.1 12 (Int32.toNatClampNeg x3)) = x1 then
          M_entriesOf_L4 x1 σ n (x2 + (1 : Int32)) (x3 + (1 : Int32))
        else
          M_entriesOf_L4 x1 σ n (x2 + (0 : Int32)) (x3 + (1 : Int32))
      else none
def M_entriesOf (x1 : Int32) (σ : St) : Option Int32 :=
  M_entriesOf_L4 x1 σ FU (0 : Int32) (0 : Int32)
def M_entries_L55 (x1 : Int32) (x2 : Int32) (x4 : Int32) (x5 : Int32) (x7 : Int32) : Nat → Int32 → St → Option (Int32 × St)
  | 0, _, _ => none
  | n + 1, x8, σ =>
    if x5 ≤ x8 then
      Option.bind (M_entriesOf x1 σ) fun r145 =>
      Option.bind (M_refused r145 σ) fun q148 =>
      some (q148.1, q148.2)
    else
      if inb ((((60 : Int32) * x2) + x4) + ((4 : Int32) * x8)) 240 then
        if inb (((((60 : Int32) * x2) + x4) + ((4 : Int32) * x8)) + (1 : Int32)) 240 then
          if inb (((((60 : Int32) * x2) + x4) + ((4 : Int32) * x8)) + (2 : Int32)) 240 then
            if inb (((((60 : Int32) * x2) + x4) + ((4 : Int32) * x8)) + (3 : Int32)) 240 then
              Option.bind (M_addEntry x1 (σ.1 61 (Int32.toNatClampNeg ((((60 : Int32) * x2) + x4) + ((4 : Int32) * x8)))) (σ.1 61 (Int32.toNatClampNeg (((((60 : Int32) * x2) + x4) + ((4 : Int32) * x8)) + (1 : Int32)))) (σ.1 61 (Int32.toNatClampNeg (((((60 : Int32) * x2) + x4) + ((4 : Int32) * x8)) + (2 : Int32)))) (1 : Int32) (σ.1 61 (Int32.toNatClampNeg (((((60 : Int32) * x2) + x4) + ((4 : Int32) * x8)) + (3 : Int32)))) σ) fun q113 =>
              if 0 ≤ q113.1 then
                M_entries_L55 x1 x2 x4 x5 x7 n (x8 + (1 : Int32)) q113.2
              else
                Option.bind (M_refused q113.1 (wI q113.2 0 17 x7)) fun q132 =>
                some (q132.1, q132.2)
            else none
          else none
        else none
      else none
def M_entries (x1 : Int32) (x2 : Int32) (x3 : Int32) (x4 : Int32) (x5 : Int32) (σ : St) : Option (Int32 × St) :=
  Option.bind (M_noPack x1 σ) fun r2 =>
  if r2 = true then
    Option.bind (M_refused (-1 : Int32) σ) fun q17 =>
    some (q17.1, q17.2)
  else
    Option.bind (M_noSheet x2 σ) fun r9 =>
    if r9 = true then
      Option.bind (M_refused (-1 : Int32) σ) fun q17 =>
      some (q17.1, q17.2)
    else
      Option.bind (M_barred x2 x3 x4 ((4 : Int64) * (Int32.toInt64 x5)) σ) fun q33 =>
      if 0 ≤ q33.1 then
        M_entries_L55 x1 x2 x4 x5 (q33.2.1 0 17) FU (0 : Int32) q33.2
      else
        some (q33.1, q33.2)
def M_told (x1 : Int32) (x2 : Int32) (σ : St) : Option Int32 :=
  Option.bind (M_in (Int32.toInt64 x1) (0 : Int64) ((Int32.toInt64 (σ.1 0 17)) - (1 : Int64)) σ) fun r10 =>
  if r10 = true then
    if x2 = (0 : Int32) then
      if inb x1 60 then
        some (σ.1 12 (Int32.toNatClampNeg x1))
      else none
    else
      if x2 = (1 : Int32) then
        if inb x1 60 then
          some (σ.1 13 (Int32.toNatClampNeg x1))
        else none
      else
        if x2 = (2 : Int32) then
          if inb x1 60 then
            some (σ.1 14 (Int32.toNatClampNeg x1))
          else none
        else
          if x2 = (3 : Int32) then
            if inb x1 60 then
              some (σ.1 15 (Int32.toNatClampNeg x1))
            else none
          else
            if x2 = (4 : Int32) then
              if inb x1 60 then
                some (σ.1 16 (Int32.toNatClampNeg x1))
              else none
            else
              if x2 = (5 : Int32) then
                if inb x1 60 then
                  some (σ.1 17 (Int32.toNatClampNeg x1))
                else none
              else
                some (-2 : Int32)
  else
    some (-1 : Int32)
def M_held (x1 : Int32) (x2 : Int32) (x3 : Int32) (σ : St) : Option Int32 :=
  Option.bind (M_noPack x1 σ) fun r2 =>
  if r2 = true then
    some (-1 : Int32)
  else
    Option.bind (M_isGood x2 σ) fun r11 =>
    if r11 = true then
      Option.bind (M_isDay x3 σ) fun r18 =>
      if r18 = true then
        Option.bind (M_heldOf x1 x2 x3 σ) fun r28 =>
        some r28
      else
        some (-2 : Int32)
    else
      some (-2 : Int32)
def M_noKnower (x1 : Int32) (σ : St) : Option Bool :=
  if x1 = (-1 : Int32) then
    some false
  else
    Option.bind (M_noBand x1 σ) fun r7 =>
    if r7 = true then
      some true
    else
      some false
def M_nextDay_L56 (x1 : Int32) (σ : St) : Nat → Int32 → Int32 → Option Int32
  | 0, _, _ => none
  | n + 1, x2, x3 =>
    if (σ.1 0 8) ≤ x3 then
      some x2
    else
      if inb x3 40 then
        if (σ.1 7 (Int32.toNatClampNeg x3)) ≤ x1 then
          M_nextDay_L56 x1 σ n x2 (x3 + (1 : Int32))
        else
          if x2 < 0 then
            if inb x3 40 then
              M_nextDay_L56 x1 σ n (σ.1 7 (Int32.toNatClampNeg x3)) (x3 + (1 : Int32))
            else none
          else
            if inb x3 40 then
              if x2 ≤ (σ.1 7 (Int32.toNatClampNeg x3)) then
                M_nextDay_L56 x1 σ n x2 (x3 + (1 : Int32))
              else
                if inb x3 40 then
                  M_nextDay_L56 x1 σ n (σ.1 7 (Int32.toNatClampNeg x3)) (x3 + (1 : Int32))
                else none
            else none
      else none
def M_nextDay_L5 (x1 : Int32) (σ : St) : Nat → Int32 → Int32 → Option Int32
  | 0, _, _ => none
  | n + 1, x2, x3 =>
    if (σ.1 0 17) ≤ x3 then
      M_nextDay_L56 x1 σ FU x2 (0 : Int32)
    else
      if inb x3 60 then
        if (σ.1 17 (Int32.toNatClampNeg x3)) ≤ x1 then
          M_nextDay_L5 x1 σ n x2 (x3 + (1 : Int32))
        else
          if x2 < 0 then
            if inb x3 60 then
              M_nextDay_L5 x1 σ n (σ.1 17 (Int32.toNatClampNeg x3)) (x3 + (1 : Int32))
            else none
          else
            if inb x3 60 then
              if x2 ≤ (σ.1 17 (Int32.toNatClampNeg x3)) then
                M_nextDay_L5 x1 σ n x2 (x3 + (1 : Int32))
              else
                if inb x3 60 then
                  M_nextDay_L5 x1 σ n (σ.1 17 (Int32.toNatClampNeg x3)) (x3 + (1 : Int32))
                else none
            else none
      else none
def M_nextDay (x1 : Int32) (σ : St) : Option Int32 :=
  M_nextDay_L5 x1 σ FU (-9 : Int32) (0 : Int32)
def M_shareOn_L120 (x1 : Int32) (x2 : Int32) (x3 : Int64) (k50 : Int32 → St → Option St) : Nat → Int32 → St → Option St
  | 0, _, _ => none
  | n + 1, x5, σ =>
    if (σ.1 0 2) ≤ x5 then
      if x2 = 0 then
        if inb (6 : Int32) 7 then
          k50 (x2 + (1 : Int32)) (wL σ 18 (Int32.toNatClampNeg (6 : Int32)) x3)
        else none
      else
        if inb (6 : Int32) 7 then
          if inb (6 : Int32) 7 then
            k50 (x2 + (1 : Int32)) (wL σ 18 (Int32.toNatClampNeg (6 : Int32)) (σ.2 18 (Int32.toNatClampNeg (6 : Int32))))
          else none
        else none
    else
      Option.bind (M_placeAt x5 x1 σ) fun r139 =>
      if r139 = x2 then
        if inb x5 7 then
          M_shareOn_L120 x1 x2 x3 k50 n (x5 + (1 : Int32)) (wL σ 18 (Int32.toNatClampNeg x5) x3)
        else none
      else
        if inb x5 7 then
          if inb x5 7 then
            M_shareOn_L120 x1 x2 x3 k50 n (x5 + (1 : Int32)) (wL σ 18 (Int32.toNatClampNeg x5) (σ.2 18 (Int32.toNatClampNeg x5)))
          else none
        else none
def M_shareOn_L77 (x1 : Int32) (x2 : Int32) (σ : St) (k50 : Int32 → St → Option St) : Nat → Int64 → Int32 → Option St
  | 0, _, _ => none
  | n + 1, x3, x5 =>
    if (σ.1 0 2) ≤ x5 then
      M_shareOn_L120 x1 x2 x3 k50 FU (0 : Int32) σ
    else
      Option.bind (M_placeAt x5 x1 σ) fun r91 =>
      if r91 = x2 then
        if inb x5 7 then
          M_shareOn_L77 x1 x2 σ k50 n (x3 ||| (σ.2 18 (Int32.toNatClampNeg x5))) (x5 + (1 : Int32))
        else none
      else
        M_shareOn_L77 x1 x2 σ k50 n (x3 ||| (0 : Int64)) (x5 + (1 : Int32))
def M_shareOn_L50 (x1 : Int32) : Nat → Int32 → St → Option St
  | 0, _, _ => none
  | n + 1, x2, σ =>
    if (σ.1 0 1) ≤ x2 then
      some σ
    else
      if x2 = 0 then
        if inb (6 : Int32) 7 then
          M_shareOn_L77 x1 x2 σ (fun y2 τ => M_shareOn_L50 x1 n y2 τ) FU (σ.2 18 (Int32.toNatClampNeg (6 : Int32))) (0 : Int32)
        else none
      else
        M_shareOn_L77 x1 x2 σ (fun y2 τ => M_shareOn_L50 x1 n y2 τ) FU (0 : Int64) (0 : Int32)
def M_shareOn_L2 (x1 : Int32) : Nat → Int32 → St → Option St
  | 0, _, _ => none
  | n + 1, x2, σ =>
    if (σ.1 0 17) ≤ x2 then
      M_shareOn_L50 x1 FU (0 : Int32) σ
    else
      if inb x2 60 then
        if (σ.1 17 (Int32.toNatClampNeg x2)) = x1 then
          if inb x2 60 then
            if inb (σ.1 12 (Int32.toNatClampNeg x2)) 12 then
              if inb (σ.1 10 (Int32.toNatClampNeg (σ.1 12 (Int32.toNatClampNeg x2)))) 7 then
                if inb (σ.1 10 (Int32.toNatClampNeg (σ.1 12 (Int32.toNatClampNeg x2)))) 7 then
                  M_shareOn_L2 x1 n (x2 + (1 : Int32)) (wL σ 18 (Int32.toNatClampNeg (σ.1 10 (Int32.toNatClampNeg (σ.1 12 (Int32.toNatClampNeg x2))))) ((σ.2 18 (Int32.toNatClampNeg (σ.1 10 (Int32.toNatClampNeg (σ.1 12 (Int32.toNatClampNeg x2)))))) ||| ((1 : Int64) <<< (Int32.toInt64 x2 &&& 63))))
                else none
              else none
            else none
          else none
        else
          M_shareOn_L2 x1 n (x2 + (1 : Int32)) σ
      else none
def M_shareOn (x1 : Int32) (σ : St) : Option St :=
  M_shareOn_L2 x1 FU (0 : Int32) σ
def M_hasBit (x0 : Int64) (x2 : Int32) (σ : St) : Option Bool :=
  if ((x0 >>> (Int32.toInt64 x2 &&& 63)) &&& (1 : Int64)) = (1 : Int64) then
    some true
  else
    some false
def M_layKnown_L69 (x1 : Int32) (x2 : Int32) (k50 : Int32 → St → Option St) (k61 : Int32 → St → Option St) : Nat → Int32 → St → Option St
  | 0, _, _ => none
  | n + 1, x3, σ =>
    if (σ.1 0 17) ≤ x3 then
      k61 (x2 + (1 : Int32)) σ
    else
      if inb x2 7 then
        Option.bind (M_hasBit (σ.2 18 (Int32.toNatClampNeg x2)) x3 σ) fun r84 =>
        if r84 = true then
          if inb (((60 : Int32) * x2) + x3) 420 then
            if 0 ≤ (σ.1 19 (Int32.toNatClampNeg (((60 : Int32) * x2) + x3))) then
              if inb (((60 : Int32) * x2) + x3) 420 then
                if inb (((60 : Int32) * x2) + x3) 420 then
                  M_layKnown_L69 x1 x2 k50 k61 n (x3 + (1 : Int32)) (wI σ 19 (Int32.toNatClampNeg (((60 : Int32) * x2) + x3)) (σ.1 19 (Int32.toNatClampNeg (((60 : Int32) * x2) + x3))))
                else none
              else none
            else
              if inb (((60 : Int32) * x2) + x3) 420 then
                M_layKnown_L69 x1 x2 k50 k61 n (x3 + (1 : Int32)) (wI σ 19 (Int32.toNatClampNeg (((60 : Int32) * x2) + x3)) x1)
              else none
          else none
        else
          if inb (((60 : Int32) * x2) + x3) 420 then
            if inb (((60 : Int32) * x2) + x3) 420 then
              M_layKnown_L69 x1 x2 k50 k61 n (x3 + (1 : Int32)) (wI σ 19 (Int32.toNatClampNeg (((60 : Int32) * x2) + x3)) (σ.1 19 (Int32.toNatClampNeg (((60 : Int32) * x2) + x3))))
            else none
          else none
      else none
def M_layKnown_L61 (x1 : Int32) (k50 : Int32 → St → Option St) : Nat → Int32 → St → Option St
  | 0, _, _ => none
  | n + 1, x2, σ =>
    if (7 : Int32) ≤ x2 then
      Option.bind (M_nextDay x1 σ) fun r156 =>
      k50 r156 σ
    else
      M_layKnown_L69 x1 x2 k50 (fun y2 τ => M_layKnown_L61 x1 k50 n y2 τ) FU (0 : Int32) σ
def M_layKnown_L50  : Nat → Int32 → St → Option St
  | 0, _, _ => none
  | n + 1, x1, σ =>
    if x1 < 0 then
      some σ
    else
      Option.bind (M_shareOn x1 σ) fun q56 =>
      M_layKnown_L61 x1 (fun y1 τ => M_layKnown_L50 n y1 τ) FU (0 : Int32) q56
def M_layKnown_L23  : Nat → Int32 → St → Option St
  | 0, _, _ => none
  | n + 1, x1, σ =>
    if (420 : Int32) ≤ x1 then
      Option.bind (M_nextDay (-1 : Int32) σ) fun r46 =>
      M_layKnown_L50 FU r46 σ
    else
      if inb x1 420 then
        M_layKnown_L23 n (x1 + (1 : Int32)) (wI σ 19 (Int32.toNatClampNeg x1) (-9 : Int32))
      else none
def M_layKnown_L2  : Nat → Int32 → St → Option St
  | 0, _, _ => none
  | n + 1, x1, σ =>
    if (7 : Int32) ≤ x1 then
      M_layKnown_L23 FU (0 : Int32) σ
    else
      if inb x1 7 then
        M_layKnown_L2 n (x1 + (1 : Int32)) (wL σ 18 (Int32.toNatClampNeg x1) (0 : Int64))
      else none
def M_layKnown  (σ : St) : Option St :=
  M_layKnown_L2 FU (0 : Int32) σ
def M_known (x1 : Int32) (x2 : Int32) (σ : St) : Option (Int32 × St) :=
  Option.bind (M_in (Int32.toInt64 x1) (0 : Int64) ((Int32.toInt64 (σ.1 0 17)) - (1 : Int64)) σ) fun r10 =>
  if r10 = true then
    Option.bind (M_noKnower x2 σ) fun r18 =>
    if r18 = true then
      some ((-1 : Int32), σ)
    else
      Option.bind (M_layKnown σ) fun q27 =>
      if 0 ≤ x2 then
        if inb (((60 : Int32) * x2) + x1) 420 then
          some ((q27.1 19 (Int32.toNatClampNeg (((60 : Int32) * x2) + x1))), q27)
        else none
      else
        if inb (((60 : Int32) * (6 : Int32)) + x1) 420 then
          some ((q27.1 19 (Int32.toNatClampNeg (((60 : Int32) * (6 : Int32)) + x1))), q27)
        else none
  else
    some ((-1 : Int32), σ)
def M_as_L45 (x1 : Int32) (x2 : Int32) (x3 : Int32) (x4 : Int32) (σ : St) : Nat → Int32 → Int32 → Option (Int32 × St)
  | 0, _, _ => none
  | n + 1, x5, x6 =>
    if (σ.1 0 17) ≤ x6 then
      some (x5, σ)
    else
      if inb x6 60 then
        if (σ.1 12 (Int32.toNatClampNeg x6)) = x1 then
          if inb x6 60 then
            if (σ.1 14 (Int32.toNatClampNeg x6)) = x2 then
              if inb x6 60 then
                if x3 < (σ.1 17 (Int32.toNatClampNeg x6)) then
                  M_as_L45 x1 x2 x3 x4 σ n x5 (x6 + (1 : Int32))
                else
                  if inb ((360 : Int32) + x6) 420 then
                    Option.bind (M_in (Int32.toInt64 (σ.1 19 (Int32.toNatClampNeg ((360 : Int32) + x6)))) (0 : Int64) (Int32.toInt64 x4) σ) fun r103 =>
                    if r103 = true then
                      if inb x6 60 then
                        if (2 : Int32) ≤ (σ.1 13 (Int32.toNatClampNeg x6)) then
                          if inb x6 60 then
                            M_as_L45 x1 x2 x3 x4 σ n (x5 + (-(σ.1 15 (Int32.toNatClampNeg x6)))) (x6 + (1 : Int32))
                          else none
                        else
                          if inb x6 60 then
                            M_as_L45 x1 x2 x3 x4 σ n (x5 + (σ.1 15 (Int32.toNatClampNeg x6))) (x6 + (1 : Int32))
                          else none
                      else none
                    else
                      M_as_L45 x1 x2 x3 x4 σ n x5 (x6 + (1 : Int32))
                  else none
              else none
            else
              M_as_L45 x1 x2 x3 x4 σ n x5 (x6 + (1 : Int32))
          else none
        else
          M_as_L45 x1 x2 x3 x4 σ n x5 (x6 + (1 : Int32))
      else none
def M_as (x1 : Int32) (x2 : Int32) (x3 : Int32) (x4 : Int32) (σ : St) : Option (Int32 × St) :=
  Option.bind (M_noPack x1 σ) fun r2 =>
  if r2 = true then
    some ((-1 : Int32), σ)
  else
    Option.bind (M_isGood x2 σ) fun r11 =>
    if r11 = true then
      Option.bind (M_isDay x3 σ) fun r18 =>
      if r18 = true then
        Option.bind (M_isDay x4 σ) fun r26 =>
        if r26 = true then
          Option.bind (M_layKnown σ) fun q36 =>
          M_as_L45 x1 x2 x3 x4 q36 FU (0 : Int32) (0 : Int32)
        else
          some ((-2 : Int32), σ)
      else
        some ((-2 : Int32), σ)
    else
      some ((-2 : Int32), σ)
def M_knows_L29 (x1 : Int32) (x2 : Int32) (σ : St) : Nat → Int32 → Int32 → Option (Int32 × St)
  | 0, _, _ => none
  | n + 1, x3, x4 =>
    if (σ.1 0 17) ≤ x4 then
      some (x3, σ)
    else
      if 0 ≤ x1 then
        if inb (((60 : Int32) * x1) + x4) 420 then
          Option.bind (M_in (Int32.toInt64 (σ.1 19 (Int32.toNatClampNeg (((60 : Int32) * x1) + x4)))) (0 : Int64) (Int32.toInt64 x2) σ) fun r64 =>
          if r64 = true then
            M_knows_L29 x1 x2 σ n (x3 + (1 : Int32)) (x4 + (1 : Int32))
          else
            M_knows_L29 x1 x2 σ n (x3 + (0 : Int32)) (x4 + (1 : Int32))
        else none
      else
        if inb (((60 : Int32) * (6 : Int32)) + x4) 420 then
          Option.bind (M_in (Int32.toInt64 (σ.1 19 (Int32.toNatClampNeg (((60 : Int32) * (6 : Int32)) + x4)))) (0 : Int64) (Int32.toInt64 x2) σ) fun r64 =>
          if r64 = true then
            M_knows_L29 x1 x2 σ n (x3 + (1 : Int32)) (x4 + (1 : Int32))
          else
            M_knows_L29 x1 x2 σ n (x3 + (0 : Int32)) (x4 + (1 : Int32))
        else none
def M_knows (x1 : Int32) (x2 : Int32) (σ : St) : Option (Int32 × St) :=
  Option.bind (M_noKnower x1 σ) fun r2 =>
  if r2 = true then
    some ((-1 : Int32), σ)
  else
    Option.bind (M_isDay x2 σ) fun r11 =>
    if r11 = true then
      Option.bind (M_layKnown σ) fun q21 =>
      M_knows_L29 x1 x2 q21 FU (0 : Int32) (0 : Int32)
    else
      some ((-2 : Int32), σ)
def M_letterOf (x0 : Int32) (σ : St) : Option Int32 :=
  if x0 = (98 : Int32) then
    some (4 : Int32)
  else
    if x0 = (102 : Int32) then
      some (6 : Int32)
    else
      if x0 = (104 : Int32) then
        some (3 : Int32)
      else
        if x0 = (112 : Int32) then
          some (1 : Int32)
        else
          if x0 = (115 : Int32) then
            some (0 : Int32)
          else
            if x0 = (117 : Int32) then
              some (5 : Int32)
            else
              if x0 = (121 : Int32) then
                some (2 : Int32)
              else
                some (-1 : Int32)
def M_isNumber (x0 : Int32) (x1 : Int32) (σ : St) : Option Bool :=
  if x0 = 0 then
    if (10 : Int32) < x1 then
      some false
    else
      some true
  else
    if x0 = (1 : Int32) then
      if (99 : Int32) < x1 then
        some false
      else
        some true
    else
      if x0 = (2 : Int32) then
        if x1 < (1 : Int32) then
          some false
        else
          some true
      else
        if x0 = (3 : Int32) then
          if (2 : Int32) < x1 then
            some false
          else
            some true
        else
          if (7 : Int32) < x1 then
            some false
          else
            some true
def M_read_L51 (x1 : Int32) (x2 : Int32) (x5 : Int32) (x6 : Int32) (σ : St) (k10 : Int32 → Int32 → St → Option (Int32 × St)) : Nat → Int32 → Int32 → Option (Int32 × St)
  | 0, _, _ => none
  | n + 1, x3, x7 =>
    if x2 ≤ x3 then
      if x3 = x6 then
        some (x3, σ)
      else
        Option.bind (M_isNumber x5 x7 σ) fun r122 =>
        if r122 = true then
          if inb (σ.1 0 33) 6 then
            if inb (σ.1 0 33) 6 then
              if x2 ≤ x3 then
                k10 x3 (0 : Int32) (wI (wI (wI σ 26 (Int32.toNatClampNeg (σ.1 0 33)) x5) 27 (Int32.toNatClampNeg (σ.1 0 33)) x7) 0 33 ((σ.1 0 33) + (1 : Int32)))
              else
                if inb (x1 + x3) 240 then
                  if (σ.1 61 (Int32.toNatClampNeg (x1 + x3))) = (59 : Int32) then
                    if ((σ.1 0 33) + (1 : Int32)) = (6 : Int32) then
                      some (x3, (wI (wI (wI σ 26 (Int32.toNatClampNeg (σ.1 0 33)) x5) 27 (Int32.toNatClampNeg (σ.1 0 33)) x7) 0 33 ((σ.1 0 33) + (1 : Int32))))
                    else
                      k10 (x3 + (1 : Int32)) (1 : Int32) (wI (wI (wI σ 26 (Int32.toNatClampNeg (σ.1 0 33)) x5) 27 (Int32.toNatClampNeg (σ.1 0 33)) x7) 0 33 ((σ.1 0 33) + (1 : Int32)))
                  else
                    some (x3, (wI (wI (wI σ 26 (Int32.toNatClampNeg (σ.1 0 33)) x5) 27 (Int32.toNatClampNeg (σ.1 0 33)) x7) 0 33 ((σ.1 0 33) + (1 : Int32))))
                else none
            else none
          else none
        else
          some (x6, σ)
    else
      if (x6 + (4 : Int32)) ≤ x3 then
        if x3 = x6 then
          some (x3, σ)
        else
          Option.bind (M_isNumber x5 x7 σ) fun r122 =>
          if r122 = true then
            if inb (σ.1 0 33) 6 then
              if inb (σ.1 0 33) 6 then
                if x2 ≤ x3 then
                  k10 x3 (0 : Int32) (wI (wI (wI σ 26 (Int32.toNatClampNeg (σ.1 0 33)) x5) 27 (Int32.toNatClampNeg (σ.1 0 33)) x7) 0 33 ((σ.1 0 33) + (1 : Int32)))
                else
                  if inb (x1 + x3) 240 then
                    if (σ.1 61 (Int32.toNatClampNeg (x1 + x3))) = (59 : Int32) then
                      if ((σ.1 0 33) + (1 : Int32)) = (6 : Int32) then
                        some (x3, (wI (wI (wI σ 26 (Int32.toNatClampNeg (σ.1 0 33)) x5) 27 (Int32.toNatClampNeg (σ.1 0 33)) x7) 0 33 ((σ.1 0 33) + (1 : Int32))))
                      else
                        k10 (x3 + (1 : Int32)) (1 : Int32) (wI (wI (wI σ 26 (Int32.toNatClampNeg (σ.1 0 33)) x5) 27 (Int32.toNatClampNeg (σ.1 0 33)) x7) 0 33 ((σ.1 0 33) + (1 : Int32)))
                    else
                      some (x3, (wI (wI (wI σ 26 (Int32.toNatClampNeg (σ.1 0 33)) x5) 27 (Int32.toNatClampNeg (σ.1 0 33)) x7) 0 33 ((σ.1 0 33) + (1 : Int32))))
                  else none
              else none
            else none
          else
            some (x6, σ)
      else
        if inb (x1 + x3) 240 then
          Option.bind (M_in (Int32.toInt64 (σ.1 61 (Int32.toNatClampNeg (x1 + x3)))) (48 : Int64) (57 : Int64) σ) fun r79 =>
          if r79 = true then
            if inb (x1 + x3) 240 then
              M_read_L51 x1 x2 x5 x6 σ k10 n (x3 + (1 : Int32)) ((((10 : Int32) * x7) + (σ.1 61 (Int32.toNatClampNeg (x1 + x3)))) - (48 : Int32))
            else none
          else
            if x3 = x6 then
              some (x3, σ)
            else
              Option.bind (M_isNumber x5 x7 σ) fun r122 =>
              if r122 = true then
                if inb (σ.1 0 33) 6 then
                  if inb (σ.1 0 33) 6 then
                    if x2 ≤ x3 then
                      k10 x3 (0 : Int32) (wI (wI (wI σ 26 (Int32.toNatClampNeg (σ.1 0 33)) x5) 27 (Int32.toNatClampNeg (σ.1 0 33)) x7) 0 33 ((σ.1 0 33) + (1 : Int32)))
                    else
                      if inb (x1 + x3) 240 then
                        if (σ.1 61 (Int32.toNatClampNeg (x1 + x3))) = (59 : Int32) then
                          if ((σ.1 0 33) + (1 : Int32)) = (6 : Int32) then
                            some (x3, (wI (wI (wI σ 26 (Int32.toNatClampNeg (σ.1 0 33)) x5) 27 (Int32.toNatClampNeg (σ.1 0 33)) x7) 0 33 ((σ.1 0 33) + (1 : Int32))))
                          else
                            k10 (x3 + (1 : Int32)) (1 : Int32) (wI (wI (wI σ 26 (Int32.toNatClampNeg (σ.1 0 33)) x5) 27 (Int32.toNatClampNeg (σ.1 0 33)) x7) 0 33 ((σ.1 0 33) + (1 : Int32)))
                        else
                          some (x3, (wI (wI (wI σ 26 (Int32.toNatClampNeg (σ.1 0 33)) x5) 27 (Int32.toNatClampNeg (σ.1 0 33)) x7) 0 33 ((σ.1 0 33) + (1 : Int32))))
                      else none
                  else none
                else none
              else
                some (x6, σ)
        else none
def M_read_L10 (x1 : Int32) (x2 : Int32) : Nat → Int32 → Int32 → St → Option (Int32 × St)
  | 0, _, _, _ => none
  | n + 1, x3, x4, σ =>
    if x4 = 0 then
      some ((-1 : Int32), σ)
    else
      if x3 = x2 then
        some (x2, σ)
      else
        if inb (x1 + x3) 240 then
          Option.bind (M_letterOf (σ.1 61 (Int32.toNatClampNeg (x1 + x3))) σ) fun r30 =>
          if 0 ≤ r30 then
            M_read_L51 x1 x2 r30 (x3 + (1 : Int32)) σ (fun y3 y4 τ => M_read_L10 x1 x2 n y3 y4 τ) FU (x3 + (1 : Int32)) (0 : Int32)
          else
            some (x3, σ)
        else none
def M_read (x1 : Int32) (x2 : Int32) (σ : St) : Option (Int32 × St) :=
  M_read_L10 x1 x2 FU (0 : Int32) (1 : Int32) (wI σ 0 33 (0 : Int32))
def M_text_L157  : Nat → Int32 → St → Option (Int32 × St)
  | 0, _, _ => none
  | n + 1, x10, σ =>
    if (σ.1 0 33) ≤ x10 then
      Option.bind (M_refused (((σ.1 0 26) + (1 : Int32)) - (1 : Int32)) (wI σ 0 26 ((σ.1 0 26) + (1 : Int32)))) fun q233 =>
      some (q233.1, q233.2)
    else
      if inb x10 6 then
        if inb (((6 : Int32) * (σ.1 0 26)) + x10) 60 then
          if inb x10 6 then
            if inb (((6 : Int32) * (σ.1 0 26)) + x10) 60 then
              M_text_L157 n (x10 + (1 : Int32)) (wI (wI σ 24 (Int32.toNatClampNeg (((6 : Int32) * (σ.1 0 26)) + x10)) (σ.1 26 (Int32.toNatClampNeg x10))) 25 (Int32.toNatClampNeg (((6 : Int32) * (σ.1 0 26)) + x10)) (σ.1 27 (Int32.toNatClampNeg x10)))
            else none
          else none
        else none
      else none
def M_text (x1 : Int32) (x2 : Int32) (x3 : Int32) (x4 : Int32) (x5 : Int32) (x6 : Int32) (x7 : Int32) (σ : St) : Option (Int32 × St) :=
  Option.bind (M_noSheet x4 σ) fun r2 =>
  if r2 = true then
    Option.bind (M_refused (-1 : Int32) σ) fun q10 =>
    some (q10.1, q10.2)
  else
    if x1 = (-1 : Int32) then
      Option.bind (M_areDays x2 x3 σ) fun r28 =>
      if r28 = true then
        Option.bind (M_barred x4 x5 x6 (Int32.toInt64 x7) σ) fun q51 =>
        if 0 ≤ q51.1 then
          Option.bind (M_read (((60 : Int32) * x4) + x6) x7 q51.2) fun q75 =>
          if q75.1 < 0 then
            if (q75.2.1 0 26) = (10 : Int32) then
              Option.bind (M_refused (-4 : Int32) q75.2) fun q107 =>
              some (q107.1, q107.2)
            else
              if inb (q75.2.1 0 26) 10 then
                if inb (q75.2.1 0 26) 10 then
                  if inb (q75.2.1 0 26) 10 then
                    if inb (q75.2.1 0 26) 10 then
                      M_text_L157 FU (0 : Int32) (wI (wI (wI (wI q75.2 20 (Int32.toNatClampNeg (q75.2.1 0 26)) x1) 21 (Int32.toNatClampNeg (q75.2.1 0 26)) x2) 22 (Int32.toNatClampNeg (q75.2.1 0 26)) x3) 23 (Int32.toNatClampNeg (q75.2.1 0 26)) (q75.2.1 0 33))
                    else none
                  else none
                else none
              else none
          else
            Option.bind (M_refused ((-100 : Int32) - q75.1) q75.2) fun q91 =>
            some (q91.1, q91.2)
        else
          some (q51.1, q51.2)
      else
        Option.bind (M_refused (-2 : Int32) σ) fun q37 =>
        some (q37.1, q37.2)
    else
      Option.bind (M_isLand x1 σ) fun r20 =>
      if r20 = true then
        Option.bind (M_areDays x2 x3 σ) fun r28 =>
        if r28 = true then
          Option.bind (M_barred x4 x5 x6 (Int32.toInt64 x7) σ) fun q51 =>
          if 0 ≤ q51.1 then
            Option.bind (M_read (((60 : Int32) * x4) + x6) x7 q51.2) fun q75 =>
            if q75.1 < 0 then
              if (q75.2.1 0 26) = (10 : Int32) then
                Option.bind (M_refused (-4 : Int32) q75.2) fun q107 =>
                some (q107.1, q107.2)
              else
                if inb (q75.2.1 0 26) 10 then
                  if inb (q75.2.1 0 26) 10 then
                    if inb (q75.2.1 0 26) 10 then
                      if inb (q75.2.1 0 26) 10 then
                        M_text_L157 FU (0 : Int32) (wI (wI (wI (wI q75.2 20 (Int32.toNatClampNeg (q75.2.1 0 26)) x1) 21 (Int32.toNatClampNeg (q75.2.1 0 26)) x2) 22 (Int32.toNatClampNeg (q75.2.1 0 26)) x3) 23 (Int32.toNatClampNeg (q75.2.1 0 26)) (q75.2.1 0 33))
                      else none
                    else none
                  else none
                else none
            else
              Option.bind (M_refused ((-100 : Int32) - q75.1) q75.2) fun q91 =>
              some (q91.1, q91.2)
          else
            some (q51.1, q51.2)
        else
          Option.bind (M_refused (-2 : Int32) σ) fun q37 =>
          some (q37.1, q37.2)
      else
        Option.bind (M_refused (-2 : Int32) σ) fun q37 =>
        some (q37.1, q37.2)
def M_clauseOf_L66 (x1 : Int32) (x2 : Int32) (x3 : Int32) (x4 : Int32) (x5 : Int32) (σ : St) (k8 : Int32 → Option Int32) : Nat → Int32 → Option Int32
  | 0, _ => none
  | n + 1, x6 =>
    if x6 < ((6 : Int32) * x5) then
      k8 (x5 + (-1 : Int32))
    else
      if (4 : Int32) ≤ x1 then
        if inb x6 60 then
          if (σ.1 24 (Int32.toNatClampNeg x6)) ≤ (3 : Int32) then
            M_clauseOf_L66 x1 x2 x3 x4 x5 σ k8 n (x6 + (-1 : Int32))
          else
            if inb x6 60 then
              if (σ.1 25 (Int32.toNatClampNeg x6)) = x2 then
                some x6
              else
                M_clauseOf_L66 x1 x2 x3 x4 x5 σ k8 n (x6 + (-1 : Int32))
            else none
        else none
      else
        if inb x6 60 then
          if (σ.1 24 (Int32.toNatClampNeg x6)) = x1 then
            some x6
          else
            M_clauseOf_L66 x1 x2 x3 x4 x5 σ k8 n (x6 + (-1 : Int32))
        else none
def M_clauseOf_L8 (x1 : Int32) (x2 : Int32) (x3 : Int32) (x4 : Int32) (σ : St) : Nat → Int32 → Option Int32
  | 0, _ => none
  | n + 1, x5 =>
    if x5 < 0 then
      some (-9 : Int32)
    else
      if inb x5 10 then
        if (σ.1 20 (Int32.toNatClampNeg x5)) = x3 then
          if inb x5 10 then
            if inb x5 10 then
              Option.bind (M_in (Int32.toInt64 x4) (Int32.toInt64 (σ.1 21 (Int32.toNatClampNeg x5))) (Int32.toInt64 (σ.1 22 (Int32.toNatClampNeg x5))) σ) fun r43 =>
              if r43 = true then
                if inb x5 10 then
                  M_clauseOf_L66 x1 x2 x3 x4 x5 σ (fun y5 => M_clauseOf_L8 x1 x2 x3 x4 σ n y5) FU ((((6 : Int32) * x5) + (σ.1 23 (Int32.toNatClampNeg x5))) - (1 : Int32))
                else none
              else
                M_clauseOf_L8 x1 x2 x3 x4 σ n (x5 + (-1 : Int32))
            else none
          else none
        else
          M_clauseOf_L8 x1 x2 x3 x4 σ n (x5 + (-1 : Int32))
      else none
def M_clauseOf (x1 : Int32) (x2 : Int32) (x3 : Int32) (x4 : Int32) (σ : St) : Option Int32 :=
  M_clauseOf_L8 x1 x2 x3 x4 σ FU ((σ.1 0 26) - (1 : Int32))
def M_tellingOf (x1 : Int32) (x2 : Int32) (x3 : Int32) (x4 : Int32) (σ : St) : Option Int32 :=
  Option.bind (M_clauseOf x1 x2 x3 x4 σ) fun r6 =>
  if r6 < 0 then
    Option.bind (M_clauseOf x1 x2 (-1 : Int32) x4 σ) fun r27 =>
    some r27
  else
    some r6
def M_valueOf (x1 : Int32) (x2 : Int32) (σ : St) : Option Int32 :=
  if 0 ≤ x2 then
    if (4 : Int32) ≤ x1 then
      if inb x2 60 then
        if (σ.1 24 (Int32.toNatClampNeg x2)) = (4 : Int32) then
          some (1 : Int32)
        else
          if inb x2 60 then
            if (σ.1 24 (Int32.toNatClampNeg x2)) = (5 : Int32) then
              some (2 : Int32)
            else
              some (0 : Int32)
          else none
      else none
    else
      if inb x2 60 then
        some (σ.1 25 (Int32.toNatClampNeg x2))
      else none
  else
    if x1 = 0 then
      some (4 : Int32)
    else
      some (0 : Int32)
def M_forceOf (x1 : Int32) (x2 : Int32) (x3 : Int32) (σ : St) : Option Int32 :=
  Option.bind (M_tellingOf x1 (0 : Int32) x2 x3 σ) fun r7 =>
  Option.bind (M_valueOf x1 r7 σ) fun r10 =>
  some r10
def M_force (x1 : Int32) (x2 : Int32) (x3 : Int32) (σ : St) : Option Int32 :=
  Option.bind (M_in (Int32.toInt64 x1) (0 : Int64) (3 : Int64) σ) fun r6 =>
  if r6 = true then
    Option.bind (M_isLand x2 σ) fun r13 =>
    if r13 = true then
      Option.bind (M_isDay x3 σ) fun r20 =>
      if r20 = true then
        Option.bind (M_forceOf x1 x2 x3 σ) fun r30 =>
        some r30
      else
        some (-2 : Int32)
    else
      some (-2 : Int32)
  else
    some (-2 : Int32)
def M_barOf (x1 : Int32) (x2 : Int32) (x3 : Int32) (σ : St) : Option Int32 :=
  Option.bind (M_tellingOf (4 : Int32) x1 x2 x3 σ) fun r7 =>
  Option.bind (M_valueOf (4 : Int32) r7 σ) fun r10 =>
  some r10
def M_bar (x1 : Int32) (x2 : Int32) (x3 : Int32) (σ : St) : Option Int32 :=
  Option.bind (M_isGood x1 σ) fun r1 =>
  if r1 = true then
    Option.bind (M_isLand x2 σ) fun r8 =>
    if r8 = true then
      Option.bind (M_isDay x3 σ) fun r15 =>
      if r15 = true then
        Option.bind (M_barOf x1 x2 x3 σ) fun r25 =>
        some r25
      else
        some (-2 : Int32)
    else
      some (-2 : Int32)
  else
    some (-2 : Int32)
def M_isAsked (x0 : Int32) (x1 : Int32) (x2 : Int32) (x3 : Int32) (σ : St) : Option Bool :=
  Option.bind (M_in (Int32.toInt64 x0) (0 : Int64) (4 : Int64) σ) fun r6 =>
  if r6 = true then
    if x0 < (4 : Int32) then
      Option.bind (M_isLand x2 σ) fun r25 =>
      if r25 = true then
        Option.bind (M_isDay x3 σ) fun r32 =>
        if r32 = true then
          some true
        else
          some false
      else
        some false
    else
      Option.bind (M_isGood x1 σ) fun r18 =>
      if r18 = true then
        Option.bind (M_isLand x2 σ) fun r25 =>
        if r25 = true then
          Option.bind (M_isDay x3 σ) fun r32 =>
          if r32 = true then
            some true
          else
            some false
        else
          some false
      else
        some false
  else
    some false
def M_why (x1 : Int32) (x2 : Int32) (x3 : Int32) (x4 : Int32) (σ : St) : Option Int32 :=
  Option.bind (M_isAsked x1 x2 x3 x4 σ) fun r5 =>
  if r5 = true then
    Option.bind (M_tellingOf x1 x2 x3 x4 σ) fun r20 =>
    if 0 ≤ r20 then
      some (r20 / (6 : Int32))
    else
      some (-9 : Int32)
  else
    some (-2 : Int32)
def M_quarrel (x1 : Int32) (x2 : Int32) (x3 : Int32) (x4 : Int32) (σ : St) : Option Int32 :=
  Option.bind (M_isAsked x1 x2 x3 x4 σ) fun r5 =>
  if r5 = true then
    Option.bind (M_clauseOf x1 x2 x3 x4 σ) fun r20 =>
    Option.bind (M_clauseOf x1 x2 (-1 : Int32) x4 σ) fun r31 =>
    if r20 < 0 then
      some (0 : Int32)
    else
      if r31 < 0 then
        some (0 : Int32)
      else
        Option.bind (M_valueOf x1 r20 σ) fun r50 =>
        Option.bind (M_valueOf x1 r31 σ) fun r57 =>
        if r50 = r57 then
          some (0 : Int32)
        else
          some (1 : Int32)
  else
    some (-2 : Int32)
def M_licence (x1 : Int32) (x2 : Int32) (x3 : Int32) (x4 : Int32) (σ : St) : Option (Int32 × St) :=
  Option.bind (M_noBand x1 σ) fun r2 =>
  if r2 = true then
    some ((-1 : Int32), σ)
  else
    Option.bind (M_isLand x2 σ) fun r11 =>
    if r11 = true then
      Option.bind (M_areDays x3 x4 σ) fun r20 =>
      if r20 = true then
        if (σ.1 0 36) = (12 : Int32) then
          some ((-4 : Int32), σ)
        else
          if inb (σ.1 0 36) 12 then
            if inb (σ.1 0 36) 12 then
              if inb (σ.1 0 36) 12 then
                if inb (σ.1 0 36) 12 then
                  some (((σ.1 0 36) + (1 : Int32)), (wI (wI (wI (wI (wI σ 28 (Int32.toNatClampNeg (σ.1 0 36)) x1) 29 (Int32.toNatClampNeg (σ.1 0 36)) x2) 30 (Int32.toNatClampNeg (σ.1 0 36)) x3) 31 (Int32.toNatClampNeg (σ.1 0 36)) x4) 0 36 ((σ.1 0 36) + (1 : Int32))))
                else none
              else none
            else none
          else none
      else
        some ((-2 : Int32), σ)
    else
      some ((-2 : Int32), σ)
def M_isLicensed_L6 (x1 : Int32) (x2 : Int32) (x3 : Int32) (σ : St) : Nat → Int32 → Int32 → Option Bool
  | 0, _, _ => none
  | n + 1, x4, x5 =>
    if (σ.1 0 36) ≤ x5 then
      if x4 = 0 then
        some false
      else
        if x4 = 1 then
          some true
        else
          none
    else
      if x4 = 0 then
        if inb x5 12 then
          if (σ.1 28 (Int32.toNatClampNeg x5)) = x1 then
            if inb x5 12 then
              if (σ.1 29 (Int32.toNatClampNeg x5)) = x2 then
                if inb x5 12 then
                  if inb x5 12 then
                    Option.bind (M_in (Int32.toInt64 x3) (Int32.toInt64 (σ.1 30 (Int32.toNatClampNeg x5))) (Int32.toInt64 (σ.1 31 (Int32.toNatClampNeg x5))) σ) fun r60 =>
                    if r60 = true then
                      M_isLicensed_L6 x1 x2 x3 σ n (1 : Int32) (x5 + (1 : Int32))
                    else
                      M_isLicensed_L6 x1 x2 x3 σ n (0 : Int32) (x5 + (1 : Int32))
                  else none
                else none
              else
                M_isLicensed_L6 x1 x2 x3 σ n (0 : Int32) (x5 + (1 : Int32))
            else none
          else
            M_isLicensed_L6 x1 x2 x3 σ n (0 : Int32) (x5 + (1 : Int32))
        else none
      else
        M_isLicensed_L6 x1 x2 x3 σ n (1 : Int32) (x5 + (1 : Int32))
def M_isLicensed (x1 : Int32) (x2 : Int32) (x3 : Int32) (σ : St) : Option Bool :=
  M_isLicensed_L6 x1 x2 x3 σ FU (0 : Int32) (0 : Int32)
def M_isUnallowed (x1 : Int32) (σ : St) : Option Bool :=
  if inb x1 60 then
    if inb (σ.1 12 (Int32.toNatClampNeg x1)) 12 then
      if inb x1 60 then
        Option.bind (M_placeAt (σ.1 10 (Int32.toNatClampNeg (σ.1 12 (Int32.toNatClampNeg x1)))) (σ.1 17 (Int32.toNatClampNeg x1)) σ) fun r22 =>
        if inb x1 60 then
          if (σ.1 13 (Int32.toNatClampNeg x1)) = (2 : Int32) then
            if 0 ≤ r22 then
              if inb x1 60 then
                if inb r22 16 then
                  Option.bind (M_barOf (σ.1 14 (Int32.toNatClampNeg x1)) (σ.1 1 (Int32.toNatClampNeg r22)) (σ.1 17 (Int32.toNatClampNeg x1)) σ) fun r59 =>
                  if r59 = (1 : Int32) then
                    some true
                  else
                    if r59 = (2 : Int32) then
                      if inb r22 16 then
                        Option.bind (M_isLicensed (σ.1 10 (Int32.toNatClampNeg (σ.1 12 (Int32.toNatClampNeg x1)))) (σ.1 1 (Int32.toNatClampNeg r22)) (σ.1 17 (Int32.toNatClampNeg x1)) σ) fun r86 =>
                        if r86 = true then
                          some false
                        else
                          some true
                      else none
                    else
                      some false
                else none
              else none
            else
              some false
          else
            some false
        else none
      else none
    else none
  else none
def M_unallowed_L14 (x1 : Int32) (σ : St) : Nat → Int32 → Int32 → Option Int32
  | 0, _, _ => none
  | n + 1, x2, x3 =>
    if (σ.1 0 17) ≤ x3 then
      some x2
    else
      if inb x3 60 then
        if (σ.1 12 (Int32.toNatClampNeg x3)) = x1 then
          Option.bind (M_isUnallowed x3 σ) fun r35 =>
          if r35 = true then
            M_unallowed_L14 x1 σ n (x2 + (1 : Int32)) (x3 + (1 : Int32))
          else
            M_unallowed_L14 x1 σ n (x2 + (0 : Int32)) (x3 + (1 : Int32))
        else
          M_unallowed_L14 x1 σ n (x2 + (0 : Int32)) (x3 + (1 : Int32))
      else none
def M_unallowed (x1 : Int32) (σ : St) : Option Int32 :=
  Option.bind (M_noPack x1 σ) fun r2 =>
  if r2 = true then
    some (-1 : Int32)
  else
    M_unallowed_L14 x1 σ FU (0 : Int32) (0 : Int32)
def M_door (x1 : Int32) (x2 : Int32) (x3 : Int32) (x4 : Int32) (x5 : Int32) (σ : St) : Option (Int32 × St) :=
  Option.bind (M_noPlace x2 σ) fun r2 =>
  if r2 = true then
    some ((-1 : Int32), σ)
  else
    Option.bind (M_noPack x3 σ) fun r10 =>
    if r10 = true then
      some ((-1 : Int32), σ)
    else
      Option.bind (M_in (Int32.toInt64 x1) (0 : Int64) (2 : Int64) σ) fun r24 =>
      if r24 = true then
        Option.bind (M_in (Int32.toInt64 x4) (1 : Int64) (9999 : Int64) σ) fun r37 =>
        if r37 = true then
          Option.bind (M_isDay x5 σ) fun r45 =>
          if r45 = true then
            if (σ.1 0 41) = (20 : Int32) then
              some ((-4 : Int32), σ)
            else
              if inb (σ.1 0 41) 20 then
                if inb (σ.1 0 41) 20 then
                  if inb (σ.1 0 41) 20 then
                    if inb (σ.1 0 41) 20 then
                      if inb (σ.1 0 41) 20 then
                        if inb (σ.1 0 41) 20 then
                          if inb x3 12 then
                            if inb (σ.1 0 41) 20 then
                              some ((((σ.1 0 41) + (1 : Int32)) - (1 : Int32)), (wI (wI (wI (wI (wI (wI (wI (wI σ 32 (Int32.toNatClampNeg (σ.1 0 41)) x1) 33 (Int32.toNatClampNeg (σ.1 0 41)) x2) 34 (Int32.toNatClampNeg (σ.1 0 41)) x3) 35 (Int32.toNatClampNeg (σ.1 0 41)) x4) 36 (Int32.toNatClampNeg (σ.1 0 41)) x5) 37 (Int32.toNatClampNeg (σ.1 0 41)) (0 : Int32)) 38 (Int32.toNatClampNeg (σ.1 0 41)) (σ.1 10 (Int32.toNatClampNeg x3))) 0 41 ((σ.1 0 41) + (1 : Int32))))
                            else none
                          else none
                        else none
                      else none
                    else none
                  else none
                else none
              else none
          else
            some ((-2 : Int32), σ)
        else
          some ((-2 : Int32), σ)
      else
        some ((-2 : Int32), σ)
def M_noDebt (x1 : Int32) (σ : St) : Option Bool :=
  Option.bind (M_in (Int32.toInt64 x1) (0 : Int64) ((Int32.toInt64 (σ.1 0 41)) - (1 : Int64)) σ) fun r10 =>
  if r10 = true then
    some false
  else
    some true
def M_barredFrom (x1 : Int32) (σ : St) : Option Int32 :=
  if inb x1 20 then
    if inb (σ.1 33 (Int32.toNatClampNeg x1)) 16 then
      if inb x1 20 then
        Option.bind (M_forceOf (2 : Int32) (σ.1 1 (Int32.toNatClampNeg (σ.1 33 (Int32.toNatClampNeg x1)))) (σ.1 36 (Int32.toNatClampNeg x1)) σ) fun r19 =>
        if r19 = 0 then
          some (-9 : Int32)
        else
          if inb x1 20 then
            some ((σ.1 36 (Int32.toNatClampNeg x1)) + r19)
          else none
      else none
    else none
  else none
def M_due (x1 : Int32) (x2 : Int32) (σ : St) : Option Int32 :=
  Option.bind (M_noDebt x1 σ) fun r2 =>
  if r2 = true then
    some (-1 : Int32)
  else
    if x2 = (0 : Int32) then
      if inb x1 20 then
        some (σ.1 32 (Int32.toNatClampNeg x1))
      else none
    else
      if x2 = (1 : Int32) then
        if inb x1 20 then
          some (σ.1 33 (Int32.toNatClampNeg x1))
        else none
      else
        if x2 = (2 : Int32) then
          if inb x1 20 then
            some (σ.1 34 (Int32.toNatClampNeg x1))
          else none
        else
          if x2 = (3 : Int32) then
            if inb x1 20 then
              some (σ.1 35 (Int32.toNatClampNeg x1))
            else none
          else
            if x2 = (4 : Int32) then
              if inb x1 20 then
                some (σ.1 36 (Int32.toNatClampNeg x1))
              else none
            else
              if x2 = (5 : Int32) then
                Option.bind (M_barredFrom x1 σ) fun r93 =>
                some r93
              else
                if x2 = (6 : Int32) then
                  if inb x1 20 then
                    some (σ.1 37 (Int32.toNatClampNeg x1))
                  else none
                else
                  if x2 = (7 : Int32) then
                    if inb x1 20 then
                      some (σ.1 38 (Int32.toNatClampNeg x1))
                    else none
                  else
                    some (-2 : Int32)
def M_isBarred (x1 : Int32) (x2 : Int32) (σ : St) : Option Bool :=
  Option.bind (M_barredFrom x1 σ) fun r2 =>
  if r2 < 0 then
    some false
  else
    Option.bind (M_barredFrom x1 σ) fun r11 =>
    if x2 < r11 then
      some false
    else
      some true
def M_paid (x1 : Int32) (x2 : Int32) (x3 : Int32) (σ : St) : Option (Int32 × St) :=
  Option.bind (M_noDebt x1 σ) fun r2 =>
  if r2 = true then
    some ((-1 : Int32), σ)
  else
    if x2 < (1 : Int32) then
      some ((-2 : Int32), σ)
    else
      Option.bind (M_isDay x3 σ) fun r16 =>
      if r16 = true then
        Option.bind (M_isBarred x1 x3 σ) fun r28 =>
        if r28 = true then
          some ((-3 : Int32), σ)
        else
          if inb x1 20 then
            if inb x1 20 then
              if ((σ.1 35 (Int32.toNatClampNeg x1)) - (σ.1 37 (Int32.toNatClampNeg x1))) < x2 then
                some ((-3 : Int32), σ)
              else
                if inb x1 20 then
                  if (σ.1 36 (Int32.toNatClampNeg x1)) ≤ x3 then
                    if inb x1 20 then
                      if inb x1 20 then
                        if inb x1 20 then
                          if inb x1 20 then
                            some (((σ.1 35 (Int32.toNatClampNeg x1)) - ((wI σ 37 (Int32.toNatClampNeg x1) ((σ.1 37 (Int32.toNatClampNeg x1)) + x2)).1 37 (Int32.toNatClampNeg x1))), (wI σ 37 (Int32.toNatClampNeg x1) ((σ.1 37 (Int32.toNatClampNeg x1)) + x2)))
                          else none
                        else none
                      else none
                    else none
                  else
                    some ((-3 : Int32), σ)
                else none
            else none
          else none
      else
        some ((-2 : Int32), σ)
def M_dead_L25 (x1 : Int32) (x2 : Int32) : Nat → Int32 → Int32 → St → Option (Int32 × St)
  | 0, _, _, _ => none
  | n + 1, x3, x4, σ =>
    if (σ.1 0 41) ≤ x4 then
      some (x3, σ)
    else
      if inb x4 20 then
        if (σ.1 38 (Int32.toNatClampNeg x4)) = x1 then
          if inb x4 20 then
            if x2 < (σ.1 36 (Int32.toNatClampNeg x4)) then
              M_dead_L25 x1 x2 n x3 (x4 + (1 : Int32)) σ
            else
              Option.bind (M_isBarred x4 x2 σ) fun r60 =>
              if r60 = true then
                M_dead_L25 x1 x2 n x3 (x4 + (1 : Int32)) σ
              else
                if inb x4 20 then
                  if inb x4 20 then
                    if (σ.1 35 (Int32.toNatClampNeg x4)) ≤ (σ.1 37 (Int32.toNatClampNeg x4)) then
                      M_dead_L25 x1 x2 n x3 (x4 + (1 : Int32)) σ
                    else
                      if inb x4 20 then
                        if inb (σ.1 33 (Int32.toNatClampNeg x4)) 16 then
                          Option.bind (M_forceOf (3 : Int32) (σ.1 1 (Int32.toNatClampNeg (σ.1 33 (Int32.toNatClampNeg x4)))) x2 σ) fun r102 =>
                          if r102 = 0 then
                            if inb x4 20 then
                              if r102 = 0 then
                                M_dead_L25 x1 x2 n (x3 + (0 : Int32)) (x4 + (1 : Int32)) (wI σ 38 (Int32.toNatClampNeg x4) x1)
                              else
                                M_dead_L25 x1 x2 n (x3 + (1 : Int32)) (x4 + (1 : Int32)) (wI σ 38 (Int32.toNatClampNeg x4) x1)
                            else none
                          else
                            if r102 = (1 : Int32) then
                              if inb x4 20 then
                                if inb (σ.1 34 (Int32.toNatClampNeg x4)) 12 then
                                  if inb x4 20 then
                                    if r102 = 0 then
                                      M_dead_L25 x1 x2 n (x3 + (0 : Int32)) (x4 + (1 : Int32)) (wI σ 38 (Int32.toNatClampNeg x4) ((6 : Int32) + (σ.1 11 (Int32.toNatClampNeg (σ.1 34 (Int32.toNatClampNeg x4))))))
                                    else
                                      M_dead_L25 x1 x2 n (x3 + (1 : Int32)) (x4 + (1 : Int32)) (wI σ 38 (Int32.toNatClampNeg x4) ((6 : Int32) + (σ.1 11 (Int32.toNatClampNeg (σ.1 34 (Int32.toNatClampNeg x4))))))
                                  else none
                                else none
                              else none
                            else
                              if inb x4 20 then
                                if r102 = 0 then
                                  M_dead_L25 x1 x2 n (x3 + (0 : Int32)) (x4 + (1 : Int32)) (wI σ 38 (Int32.toNatClampNeg x4) ((10 : Int32) + (σ.1 1 (Int32.toNatClampNeg (σ.1 33 (Int32.toNatClampNeg x4))))))
                                else
                                  M_dead_L25 x1 x2 n (x3 + (1 : Int32)) (x4 + (1 : Int32)) (wI σ 38 (Int32.toNatClampNeg x4) ((10 : Int32) + (σ.1 1 (Int32.toNatClampNeg (σ.1 33 (Int32.toNatClampNeg x4))))))
                              else none
                        else none
                      else none
                  else none
                else none
          else none
        else
          M_dead_L25 x1 x2 n x3 (x4 + (1 : Int32)) σ
      else none
def M_dead (x1 : Int32) (x2 : Int32) (σ : St) : Option (Int32 × St) :=
  Option.bind (M_noBand x1 σ) fun r2 =>
  if r2 = true then
    some ((-1 : Int32), σ)
  else
    Option.bind (M_isDay x2 σ) fun r11 =>
    if r11 = true then
      M_dead_L25 x1 x2 FU (0 : Int32) (0 : Int32) σ
    else
      some ((-2 : Int32), σ)
def M_sentFor_L5 (x1 : Int32) (x2 : Int32) (σ : St) : Nat → Int32 → Int32 → Option Int32
  | 0, _, _ => none
  | n + 1, x3, x4 =>
    if (σ.1 0 49) ≤ x4 then
      some x3
    else
      if inb x4 1200 then
        if (σ.1 39 (Int32.toNatClampNeg x4)) = x1 then
          if inb x4 1200 then
            if x2 < (σ.1 41 (Int32.toNatClampNeg x4)) then
              M_sentFor_L5 x1 x2 σ n (x3 + (0 : Int32)) (x4 + (1 : Int32))
            else
              if inb x4 1200 then
                M_sentFor_L5 x1 x2 σ n (x3 + (σ.1 40 (Int32.toNatClampNeg x4))) (x4 + (1 : Int32))
              else none
          else none
        else
          M_sentFor_L5 x1 x2 σ n (x3 + (0 : Int32)) (x4 + (1 : Int32))
      else none
def M_sentFor (x1 : Int32) (x2 : Int32) (σ : St) : Option Int32 :=
  M_sentFor_L5 x1 x2 σ FU (0 : Int32) (0 : Int32)
def M_send (x1 : Int32) (x2 : Int32) (x3 : Int32) (σ : St) : Option (Int32 × St) :=
  Option.bind (M_noPack x1 σ) fun r2 =>
  if r2 = true then
    some ((-1 : Int32), σ)
  else
    Option.bind (M_in (Int32.toInt64 x2) (1 : Int64) (99999 : Int64) σ) fun r16 =>
    if r16 = true then
      Option.bind (M_isDay x3 σ) fun r23 =>
      if r23 = true then
        if inb (σ.1 0 49) 1200 then
          if inb (σ.1 0 49) 1200 then
            if inb (σ.1 0 49) 1200 then
              Option.bind (M_sentFor x1 (9999 : Int32) (wI (wI (wI (wI σ 39 (Int32.toNatClampNeg (σ.1 0 49)) x1) 40 (Int32.toNatClampNeg (σ.1 0 49)) x2) 41 (Int32.toNatClampNeg (σ.1 0 49)) x3) 0 49 ((σ.1 0 49) + (1 : Int32)))) fun r77 =>
              some (r77, (wI (wI (wI (wI σ 39 (Int32.toNatClampNeg (σ.1 0 49)) x1) 40 (Int32.toNatClampNeg (σ.1 0 49)) x2) 41 (Int32.toNatClampNeg (σ.1 0 49)) x3) 0 49 ((σ.1 0 49) + (1 : Int32))))
            else none
          else none
        else none
      else
        some ((-2 : Int32), σ)
    else
      some ((-2 : Int32), σ)
def M_lost  (σ : St) : Option Int64 :=
  some (-9223372036854775808 : Int64)
def M_credit_L24 (x1 : Int32) (x2 : Int32) (σ : St) : Nat → Int64 → Int32 → Option Int64
  | 0, _, _ => none
  | n + 1, x3, x5 =>
    if (σ.1 0 17) ≤ x5 then
      Option.bind (M_sentFor x1 x2 σ) fun r142 =>
      if (x3 - (Int32.toInt64 r142)) < (0 : Int64) then
        some (0 : Int64)
      else
        some (x3 - (Int32.toInt64 r142))
    else
      if inb x5 60 then
        if (σ.1 12 (Int32.toNatClampNeg x5)) = x1 then
          if inb x5 60 then
            if (σ.1 13 (Int32.toNatClampNeg x5)) = 0 then
              if inb x5 60 then
                if x2 < (σ.1 17 (Int32.toNatClampNeg x5)) then
                  M_credit_L24 x1 x2 σ n x3 (x5 + (1 : Int32))
                else
                  if inb x5 60 then
                    if inb x5 60 then
                      if inb x5 60 then
                        Option.bind (M_clauseOf (1 : Int32) (0 : Int32) (-1 : Int32) (σ.1 17 (Int32.toNatClampNeg x5)) σ) fun r97 =>
                        Option.bind (M_valueOf (1 : Int32) r97 σ) fun r100 =>
                        if inb x5 60 then
                          M_credit_L24 x1 x2 σ n (x3 + (((Int32.toInt64 (σ.1 15 (Int32.toNatClampNeg x5))) * (Int32.toInt64 (σ.1 16 (Int32.toNatClampNeg x5)))) + (((((Int32.toInt64 (σ.1 15 (Int32.toNatClampNeg x5))) * (Int32.toInt64 (σ.1 16 (Int32.toNatClampNeg x5)))) * (Int32.toInt64 r100)) * (Int32.toInt64 (x2 - (σ.1 17 (Int32.toNatClampNeg x5))))) / (10000 : Int64)))) (x5 + (1 : Int32))
                        else none
                      else none
                    else none
                  else none
              else none
            else
              M_credit_L24 x1 x2 σ n x3 (x5 + (1 : Int32))
          else none
        else
          M_credit_L24 x1 x2 σ n x3 (x5 + (1 : Int32))
      else none
def M_credit (x1 : Int32) (x2 : Int32) (σ : St) : Option Int64 :=
  Option.bind (M_noPack x1 σ) fun r2 =>
  if r2 = true then
    Option.bind (M_lost σ) fun r15 =>
    some r15
  else
    Option.bind (M_isDay x2 σ) fun r9 =>
    if r9 = true then
      M_credit_L24 x1 x2 σ FU (0 : Int64) (0 : Int32)
    else
      Option.bind (M_lost σ) fun r15 =>
      some r15
def M_share_L40 (x1 : Int32) (x2 : Int32) (x3 : Int32) (x4 : Int32) (σ : St) : Nat → Int32 → Int32 → Option Int32
  | 0, _, _ => none
  | n + 1, x5, x6 =>
    if (σ.1 0 17) ≤ x6 then
      if 0 ≤ x5 then
        Option.bind (M_clauseOf (0 : Int32) (0 : Int32) (-1 : Int32) x3 σ) fun r165 =>
        Option.bind (M_valueOf (0 : Int32) r165 σ) fun r168 =>
        if inb x1 6 then
          if inb x1 6 then
            if (((2 : Int32) * (σ.1 2 (Int32.toNatClampNeg x1))) + (σ.1 3 (Int32.toNatClampNeg x1))) = 0 then
              if (((2 : Int32) * (σ.1 2 (Int32.toNatClampNeg x1))) + (σ.1 3 (Int32.toNatClampNeg x1))) = 0 then
                if x4 = 0 then
                  some x5
                else
                  if x4 = (1 : Int32) then
                    if inb x1 6 then
                      if inb x1 6 then
                        some ((x5 - ((σ.1 2 (Int32.toNatClampNeg x1)) * (0 : Int32))) - ((σ.1 3 (Int32.toNatClampNeg x1)) * (0 : Int32)))
                      else none
                    else none
                  else
                    if x4 = (2 : Int32) then
                      some (0 : Int32)
                    else
                      some (0 : Int32)
              else
                if (((2 : Int32) * (σ.1 2 (Int32.toNatClampNeg x1))) + (σ.1 3 (Int32.toNatClampNeg x1))) = 0 then none else
                if x4 = 0 then
                  some x5
                else
                  if x4 = (1 : Int32) then
                    if inb x1 6 then
                      if inb x1 6 then
                        some ((x5 - ((σ.1 2 (Int32.toNatClampNeg x1)) * (0 : Int32))) - ((σ.1 3 (Int32.toNatClampNeg x1)) * ((x5 - ((x5 * r168) / (10 : Int32))) / (((2 : Int32) * (σ.1 2 (Int32.toNatClampNeg x1))) + (σ.1 3 (Int32.toNatClampNeg x1))))))
                      else none
                    else none
                  else
                    if x4 = (2 : Int32) then
                      some (0 : Int32)
                    else
                      some ((x5 - ((x5 * r168) / (10 : Int32))) / (((2 : Int32) * (σ.1 2 (Int32.toNatClampNeg x1))) + (σ.1 3 (Int32.toNatClampNeg x1))))
            else
              if (((2 : Int32) * (σ.1 2 (Int32.toNatClampNeg x1))) + (σ.1 3 (Int32.toNatClampNeg x1))) = 0 then none else
              if (((2 : Int32) * (σ.1 2 (Int32.toNatClampNeg x1))) + (σ.1 3 (Int32.toNatClampNeg x1))) = 0 then
                if x4 = 0 then
                  some x5
                else
                  if x4 = (1 : Int32) then
                    if inb x1 6 then
                      if inb x1 6 then
                        some ((x5 - ((σ.1 2 (Int32.toNatClampNeg x1)) * (((2 : Int32) * (x5 - ((x5 * r168) / (10 : Int32)))) / (((2 : Int32) * (σ.1 2 (Int32.toNatClampNeg x1))) + (σ.1 3 (Int32.toNatClampNeg x1)))))) - ((σ.1 3 (Int32.toNatClampNeg x1)) * (0 : Int32)))
                      else none
                    else none
                  else
                    if x4 = (2 : Int32) then
                      some (((2 : Int32) * (x5 - ((x5 * r168) / (10 : Int32)))) / (((2 : Int32) * (σ.1 2 (Int32.toNatClampNeg x1))) + (σ.1 3 (Int32.toNatClampNeg x1))))
                    else
                      some (0 : Int32)
              else
                if (((2 : Int32) * (σ.1 2 (Int32.toNatClampNeg x1))) + (σ.1 3 (Int32.toNatClampNeg x1))) = 0 then none else
                if x4 = 0 then
                  some x5
                else
                  if x4 = (1 : Int32) then
                    if inb x1 6 then
                      if inb x1 6 then
                        some ((x5 - ((σ.1 2 (Int32.toNatClampNeg x1)) * (((2 : Int32) * (x5 - ((x5 * r168) / (10 : Int32)))) / (((2 : Int32) * (σ.1 2 (Int32.toNatClampNeg x1))) + (σ.1 3 (Int32.toNatClampNeg x1)))))) - ((σ.1 3 (Int32.toNatClampNeg x1)) * ((x5 - ((x5 * r168) / (10 : Int32))) / (((2 : Int32) * (σ.1 2 (Int32.toNatClampNeg x1))) + (σ.1 3 (Int32.toNatClampNeg x1))))))
                      else none
                    else none
                  else
                    if x4 = (2 : Int32) then
                      some (((2 : Int32) * (x5 - ((x5 * r168) / (10 : Int32)))) / (((2 : Int32) * (σ.1 2 (Int32.toNatClampNeg x1))) + (σ.1 3 (Int32.toNatClampNeg x1))))
                    else
                      some ((x5 - ((x5 * r168) / (10 : Int32))) / (((2 : Int32) * (σ.1 2 (Int32.toNatClampNeg x1))) + (σ.1 3 (Int32.toNatClampNeg x1))))
          else none
        else none
      else
        Option.bind (M_clauseOf (0 : Int32) (0 : Int32) (-1 : Int32) x3 σ) fun r165 =>
        Option.bind (M_valueOf (0 : Int32) r165 σ) fun r168 =>
        if inb x1 6 then
          if inb x1 6 then
            if (((2 : Int32) * (σ.1 2 (Int32.toNatClampNeg x1))) + (σ.1 3 (Int32.toNatClampNeg x1))) = 0 then
              if (((2 : Int32) * (σ.1 2 (Int32.toNatClampNeg x1))) + (σ.1 3 (Int32.toNatClampNeg x1))) = 0 then
                if x4 = 0 then
                  some (0 : Int32)
                else
                  if x4 = (1 : Int32) then
                    if inb x1 6 then
                      if inb x1 6 then
                        some (((0 : Int32) - ((σ.1 2 (Int32.toNatClampNeg x1)) * (0 : Int32))) - ((σ.1 3 (Int32.toNatClampNeg x1)) * (0 : Int32)))
                      else none
                    else none
                  else
                    if x4 = (2 : Int32) then
                      some (0 : Int32)
                    else
                      some (0 : Int32)
              else
                if (((2 : Int32) * (σ.1 2 (Int32.toNatClampNeg x1))) + (σ.1 3 (Int32.toNatClampNeg x1))) = 0 then none else
                if x4 = 0 then
                  some (0 : Int32)
                else
                  if x4 = (1 : Int32) then
                    if inb x1 6 then
                      if inb x1 6 then
                        some (((0 : Int32) - ((σ.1 2 (Int32.toNatClampNeg x1)) * (0 : Int32))) - ((σ.1 3 (Int32.toNatClampNeg x1)) * (((0 : Int32) - (((0 : Int32) * r168) / (10 : Int32))) / (((2 : Int32) * (σ.1 2 (Int32.toNatClampNeg x1))) + (σ.1 3 (Int32.toNatClampNeg x1))))))
                      else none
                    else none
                  else
                    if x4 = (2 : Int32) then
                      some (0 : Int32)
                    else
                      some (((0 : Int32) - (((0 : Int32) * r168) / (10 : Int32))) / (((2 : Int32) * (σ.1 2 (Int32.toNatClampNeg x1))) + (σ.1 3 (Int32.toNatClampNeg x1))))
            else
              if (((2 : Int32) * (σ.1 2 (Int32.toNatClampNeg x1))) + (σ.1 3 (Int32.toNatClampNeg x1))) = 0 then none else
              if (((2 : Int32) * (σ.1 2 (Int32.toNatClampNeg x1))) + (σ.1 3 (Int32.toNatClampNeg x1))) = 0 then
                if x4 = 0 then
                  some (0 : Int32)
                else
                  if x4 = (1 : Int32) then
                    if inb x1 6 then
                      if inb x1 6 then
                        some (((0 : Int32) - ((σ.1 2 (Int32.toNatClampNeg x1)) * (((2 : Int32) * ((0 : Int32) - (((0 : Int32) * r168) / (10 : Int32)))) / (((2 : Int32) * (σ.1 2 (Int32.toNatClampNeg x1))) + (σ.1 3 (Int32.toNatClampNeg x1)))))) - ((σ.1 3 (Int32.toNatClampNeg x1)) * (0 : Int32)))
                      else none
                    else none
                  else
                    if x4 = (2 : Int32) then
                      some (((2 : Int32) * ((0 : Int32) - (((0 : Int32) * r168) / (10 : Int32)))) / (((2 : Int32) * (σ.1 2 (Int32.toNatClampNeg x1))) + (σ.1 3 (Int32.toNatClampNeg x1))))
                    else
                      some (0 : Int32)
              else
                if (((2 : Int32) * (σ.1 2 (Int32.toNatClampNeg x1))) + (σ.1 3 (Int32.toNatClampNeg x1))) = 0 then none else
                if x4 = 0 then
                  some (0 : Int32)
                else
                  if x4 = (1 : Int32) then
                    if inb x1 6 then
                      if inb x1 6 then
                        some (((0 : Int32) - ((σ.1 2 (Int32.toNatClampNeg x1)) * (((2 : Int32) * ((0 : Int32) - (((0 : Int32) * r168) / (10 : Int32)))) / (((2 : Int32) * (σ.1 2 (Int32.toNatClampNeg x1))) + (σ.1 3 (Int32.toNatClampNeg x1)))))) - ((σ.1 3 (Int32.toNatClampNeg x1)) * (((0 : Int32) - (((0 : Int32) * r168) / (10 : Int32))) / (((2 : Int32) * (σ.1 2 (Int32.toNatClampNeg x1))) + (σ.1 3 (Int32.toNatClampNeg x1))))))
                      else none
                    else none
                  else
                    if x4 = (2 : Int32) then
                      some (((2 : Int32) * ((0 : Int32) - (((0 : Int32) * r168) / (10 : Int32)))) / (((2 : Int32) * (σ.1 2 (Int32.toNatClampNeg x1))) + (σ.1 3 (Int32.toNatClampNeg x1))))
                    else
                      some (((0 : Int32) - (((0 : Int32) * r168) / (10 : Int32))) / (((2 : Int32) * (σ.1 2 (Int32.toNatClampNeg x1))) + (σ.1 3 (Int32.toNatClampNeg x1))))
          else none
        else none
    else
      if inb x6 60 then
        if inb (σ.1 12 (Int32.toNatClampNeg x6)) 12 then
          if (σ.1 10 (Int32.toNatClampNeg (σ.1 12 (Int32.toNatClampNeg x6)))) = x1 then
            if inb x6 60 then
              Option.bind (M_in (Int32.toInt64 (σ.1 17 (Int32.toNatClampNeg x6))) (Int32.toInt64 x2) (Int32.toInt64 x3) σ) fun r77 =>
              if r77 = true then
                if inb x6 60 then
                  if inb x6 60 then
                    if inb x6 60 then
                      if (σ.1 13 (Int32.toNatClampNeg x6)) = (2 : Int32) then
                        M_share_L40 x1 x2 x3 x4 σ n (x5 + ((σ.1 15 (Int32.toNatClampNeg x6)) * (σ.1 16 (Int32.toNatClampNeg x6)))) (x6 + (1 : Int32))
                      else
                        if inb x6 60 then
                          if (σ.1 13 (Int32.toNatClampNeg x6)) = (1 : Int32) then
                            M_share_L40 x1 x2 x3 x4 σ n (x5 + (-((σ.1 15 (Int32.toNatClampNeg x6)) * (σ.1 16 (Int32.toNatClampNeg x6))))) (x6 + (1 : Int32))
                          else
                            M_share_L40 x1 x2 x3 x4 σ n (x5 + (0 : Int32)) (x6 + (1 : Int32))
                        else none
                    else none
                  else none
                else none
              else
                M_share_L40 x1 x2 x3 x4 σ n x5 (x6 + (1 : Int32))
            else none
          else
            M_share_L40 x1 x2 x3 x4 σ n x5 (x6 + (1 : Int32))
        else none
      else none
def M_share (x1 : Int32) (x2 : Int32) (x3 : Int32) (x4 : Int32) (σ : St) : Option Int32 :=
  Option.bind (M_noBand x1 σ) fun r2 =>
  if r2 = true then
    some (-1 : Int32)
  else
    Option.bind (M_areDays x2 x3 σ) fun r12 =>
    if r12 = true then
      Option.bind (M_in (Int32.toInt64 x4) (0 : Int64) (3 : Int64) σ) fun r25 =>
      if r25 = true then
        M_share_L40 x1 x2 x3 x4 σ FU (0 : Int32) (0 : Int32)
      else
        some (-2 : Int32)
    else
      some (-2 : Int32)
def M_isParty (x0 : Int32) (σ : St) : Option Bool :=
  Option.bind (M_in (Int32.toInt64 x0) (0 : Int64) (9 : Int64) σ) fun r6 =>
  some r6
def M_owe (x1 : Int32) (x2 : Int32) (x3 : Int32) (σ : St) : Option (Int32 × St) :=
  Option.bind (M_isParty x1 σ) fun r1 =>
  if r1 = true then
    Option.bind (M_isParty x2 σ) fun r8 =>
    if r8 = true then
      if x1 = x2 then
        some ((-2 : Int32), σ)
      else
        Option.bind (M_in (Int32.toInt64 x3) (0 : Int64) (99999 : Int64) σ) fun r25 =>
        if r25 = true then
          if inb (((10 : Int32) * x1) + x2) 100 then
            if inb (((10 : Int32) * x1) + x2) 100 then
              some ((σ.1 42 (Int32.toNatClampNeg (((10 : Int32) * x1) + x2))), (wI σ 42 (Int32.toNatClampNeg (((10 : Int32) * x1) + x2)) x3))
            else none
          else none
        else
          some ((-2 : Int32), σ)
    else
      some ((-2 : Int32), σ)
  else
    some ((-2 : Int32), σ)
def M_owes (x1 : Int32) (x2 : Int32) (σ : St) : Option Int32 :=
  Option.bind (M_isParty x1 σ) fun r1 =>
  if r1 = true then
    Option.bind (M_isParty x2 σ) fun r8 =>
    if r8 = true then
      if inb (((10 : Int32) * x1) + x2) 100 then
        some (σ.1 42 (Int32.toNatClampNeg (((10 : Int32) * x1) + x2)))
      else none
    else
      some (-2 : Int32)
  else
    some (-2 : Int32)
def M_mayFollow_L40 (x1 : Int32) (x2 : Int32) (σ : St) : Nat → Int32 → Int32 → Option Bool
  | 0, _, _ => none
  | n + 1, x3, x4 =>
    if x2 ≤ x4 then
      if x3 = 0 then
        some false
      else
        if x3 = 1 then
          some true
        else
          none
    else
      if x3 = 0 then
        M_mayFollow_L40 x1 x2 σ n (0 : Int32) (x4 + (1 : Int32))
      else
        if inb x4 4 then
          if (σ.1 45 (Int32.toNatClampNeg x4)) = x1 then
            M_mayFollow_L40 x1 x2 σ n (0 : Int32) (x4 + (1 : Int32))
          else
            M_mayFollow_L40 x1 x2 σ n (1 : Int32) (x4 + (1 : Int32))
        else none
def M_mayFollow (x1 : Int32) (x2 : Int32) (σ : St) : Option Bool :=
  if inb (0 : Int32) 4 then
    if x1 ≤ (σ.1 45 (Int32.toNatClampNeg (0 : Int32))) then
      M_mayFollow_L40 x1 x2 σ FU (0 : Int32) (0 : Int32)
    else
      if inb (x2 - (1 : Int32)) 4 then
        if inb (((10 : Int32) * (σ.1 45 (Int32.toNatClampNeg (x2 - (1 : Int32))))) + x1) 100 then
          if (σ.1 42 (Int32.toNatClampNeg (((10 : Int32) * (σ.1 45 (Int32.toNatClampNeg (x2 - (1 : Int32))))) + x1))) ≤ 0 then
            M_mayFollow_L40 x1 x2 σ FU (0 : Int32) (0 : Int32)
          else
            M_mayFollow_L40 x1 x2 σ FU (1 : Int32) (0 : Int32)
        else none
      else none
  else none
def M_closes (x1 : Int32) (σ : St) : Option Bool :=
  if inb (x1 - (1 : Int32)) 4 then
    if inb (0 : Int32) 4 then
      if inb (((10 : Int32) * (σ.1 45 (Int32.toNatClampNeg (x1 - (1 : Int32))))) + (σ.1 45 (Int32.toNatClampNeg (0 : Int32)))) 100 then
        if (σ.1 42 (Int32.toNatClampNeg (((10 : Int32) * (σ.1 45 (Int32.toNatClampNeg (x1 - (1 : Int32))))) + (σ.1 45 (Int32.toNatClampNeg (0 : Int32)))))) ≤ 0 then
          some false
        else
          some true
      else none
    else none
  else none
def M_findFrom_L41 (x1 : Int32) (k2 : Int32 → St → Option (Bool × St)) : Nat → Int32 → St → Option (Bool × St)
  | 0, _, _ => none
  | n + 1, x2, σ =>
    if (10 : Int32) ≤ x2 then
      k2 (x1 + (1 : Int32)) σ
    else
      Option.bind (M_mayFollow x2 (3 : Int32) σ) fun r50 =>
      if r50 = true then
        if inb (3 : Int32) 4 then
          Option.bind (M_closes (4 : Int32) (wI σ 45 (Int32.toNatClampNeg (3 : Int32)) x2)) fun r65 =>
          if r65 = true then
            some (true, (wI (wI σ 45 (Int32.toNatClampNeg (3 : Int32)) x2) 0 56 (4 : Int32)))
          else
            M_findFrom_L41 x1 k2 n (x2 + (1 : Int32)) (wI σ 45 (Int32.toNatClampNeg (3 : Int32)) x2)
        else none
      else
        M_findFrom_L41 x1 k2 n (x2 + (1 : Int32)) σ
def M_findFrom_L2  : Nat → Int32 → St → Option (Bool × St)
  | 0, _, _ => none
  | n + 1, x1, σ =>
    if (10 : Int32) ≤ x1 then
      some (false, σ)
    else
      Option.bind (M_mayFollow x1 (2 : Int32) σ) fun r11 =>
      if r11 = true then
        if inb (2 : Int32) 4 then
          Option.bind (M_closes (3 : Int32) (wI σ 45 (Int32.toNatClampNeg (2 : Int32)) x1)) fun r26 =>
          if r26 = true then
            some (true, (wI (wI σ 45 (Int32.toNatClampNeg (2 : Int32)) x1) 0 56 (3 : Int32)))
          else
            M_findFrom_L41 x1 (fun y1 τ => M_findFrom_L2 n y1 τ) FU (0 : Int32) (wI σ 45 (Int32.toNatClampNeg (2 : Int32)) x1)
        else none
      else
        M_findFrom_L2 n (x1 + (1 : Int32)) σ
def M_findFrom  (σ : St) : Option (Bool × St) :=
  M_findFrom_L2 FU (0 : Int32) σ
def M_findRing_L19 (x1 : Int32) (k2 : Int32 → St → Option (Bool × St)) : Nat → Int32 → St → Option (Bool × St)
  | 0, _, _ => none
  | n + 1, x2, σ =>
    if (10 : Int32) ≤ x2 then
      k2 (x1 + (1 : Int32)) σ
    else
      Option.bind (M_mayFollow x2 (1 : Int32) σ) fun r28 =>
      if r28 = true then
        if inb (1 : Int32) 4 then
          Option.bind (M_closes (2 : Int32) (wI σ 45 (Int32.toNatClampNeg (1 : Int32)) x2)) fun r43 =>
          if r43 = true then
            some (true, (wI (wI σ 45 (Int32.toNatClampNeg (1 : Int32)) x2) 0 56 (2 : Int32)))
          else
            Option.bind (M_findFrom (wI σ 45 (Int32.toNatClampNeg (1 : Int32)) x2)) fun q57 =>
            if q57.1 = true then
              some (true, q57.2)
            else
              M_findRing_L19 x1 k2 n (x2 + (1 : Int32)) q57.2
        else none
      else
        M_findRing_L19 x1 k2 n (x2 + (1 : Int32)) σ
def M_findRing_L2  : Nat → Int32 → St → Option (Bool × St)
  | 0, _, _ => none
  | n + 1, x1, σ =>
    if (10 : Int32) ≤ x1 then
      some (false, σ)
    else
      if inb (0 : Int32) 4 then
        M_findRing_L19 x1 (fun y1 τ => M_findRing_L2 n y1 τ) FU (x1 + (1 : Int32)) (wI σ 45 (Int32.toNatClampNeg (0 : Int32)) x1)
      else none
def M_findRing  (σ : St) : Option (Bool × St) :=
  M_findRing_L2 FU (0 : Int32) σ
def M_ring_L64 (x1 : Int32) (x2 : Int32) (k2 : Int32 → St → Option (Int32 × St)) : Nat → Int32 → St → Option (Int32 × St)
  | 0, _, _ => none
  | n + 1, x3, σ =>
    if (σ.1 0 56) ≤ x3 then
      k2 (x1 + (x2 * (σ.1 0 56))) σ
    else
      if inb x3 4 then
        if (σ.1 0 56) = 0 then none else
        if inb ((x3 + (1 : Int32)) - (x3 + (1 : Int32)) / (σ.1 0 56) * (σ.1 0 56)) 4 then
          if inb (((10 : Int32) * (σ.1 45 (Int32.toNatClampNeg x3))) + (σ.1 45 (Int32.toNatClampNeg ((x3 + (1 : Int32)) - (x3 + (1 : Int32)) / (σ.1 0 56) * (σ.1 0 56))))) 100 then
            if inb (((10 : Int32) * (σ.1 45 (Int32.toNatClampNeg x3))) + (σ.1 45 (Int32.toNatClampNeg ((x3 + (1 : Int32)) - (x3 + (1 : Int32)) / (σ.1 0 56) * (σ.1 0 56))))) 100 then
              M_ring_L64 x1 x2 k2 n (x3 + (1 : Int32)) (wI σ 42 (Int32.toNatClampNeg (((10 : Int32) * (σ.1 45 (Int32.toNatClampNeg x3))) + (σ.1 45 (Int32.toNatClampNeg ((x3 + (1 : Int32)) - (x3 + (1 : Int32)) / (σ.1 0 56) * (σ.1 0 56)))))) ((σ.1 42 (Int32.toNatClampNeg (((10 : Int32) * (σ.1 45 (Int32.toNatClampNeg x3))) + (σ.1 45 (Int32.toNatClampNeg ((x3 + (1 : Int32)) - (x3 + (1 : Int32)) / (σ.1 0 56) * (σ.1 0 56))))))) - x2))
            else none
          else none
        else none
      else none
def M_ring_L15 (x1 : Int32) (σ : St) (k2 : Int32 → St → Option (Int32 × St)) : Nat → Int32 → Int32 → Option (Int32 × St)
  | 0, _, _ => none
  | n + 1, x2, x3 =>
    if (σ.1 0 56) ≤ x3 then
      M_ring_L64 x1 x2 k2 FU (0 : Int32) σ
    else
      if inb x3 4 then
        if (σ.1 0 56) = 0 then none else
        if inb ((x3 + (1 : Int32)) - (x3 + (1 : Int32)) / (σ.1 0 56) * (σ.1 0 56)) 4 then
          if inb (((10 : Int32) * (σ.1 45 (Int32.toNatClampNeg x3))) + (σ.1 45 (Int32.toNatClampNeg ((x3 + (1 : Int32)) - (x3 + (1 : Int32)) / (σ.1 0 56) * (σ.1 0 56))))) 100 then
            Option.bind (M_lesser x2 (σ.1 42 (Int32.toNatClampNeg (((10 : Int32) * (σ.1 45 (Int32.toNatClampNeg x3))) + (σ.1 45 (Int32.toNatClampNeg ((x3 + (1 : Int32)) - (x3 + (1 : Int32)) / (σ.1 0 56) * (σ.1 0 56))))))) σ) fun r52 =>
            M_ring_L15 x1 σ k2 n r52 (x3 + (1 : Int32))
          else none
        else none
      else none
def M_ring_L2  : Nat → Int32 → St → Option (Int32 × St)
  | 0, _, _ => none
  | n + 1, x1, σ =>
    Option.bind (M_findRing σ) fun q3 =>
    if q3.1 = true then
      M_ring_L15 x1 q3.2 (fun y1 τ => M_ring_L2 n y1 τ) FU (100000 : Int32) (0 : Int32)
    else
      some (x1, q3.2)
def M_ring  (σ : St) : Option (Int32 × St) :=
  M_ring_L2 FU (0 : Int32) σ
def M_party (x1 : Int32) (x2 : Int32) (x3 : Int32) (σ : St) : Option (Int32 × St) :=
  Option.bind (M_isParty x1 σ) fun r1 =>
  if r1 = true then
    Option.bind (M_in (Int32.toInt64 x2) (0 : Int64) (1 : Int64) σ) fun r11 =>
    if r11 = true then
      if x2 = 0 then
        Option.bind (M_in (Int32.toInt64 x3) (0 : Int64) (99999 : Int64) σ) fun r33 =>
        if r33 = true then
          if x2 = 0 then
            if inb x1 10 then
              if x2 = 0 then
                if inb x1 10 then
                  some ((σ.1 43 (Int32.toNatClampNeg x1)), (wI σ 43 (Int32.toNatClampNeg x1) x3))
                else none
              else
                if inb x1 10 then
                  some ((σ.1 43 (Int32.toNatClampNeg x1)), (wI σ 44 (Int32.toNatClampNeg x1) x3))
                else none
            else none
          else
            if inb x1 10 then
              if x2 = 0 then
                if inb x1 10 then
                  some ((σ.1 44 (Int32.toNatClampNeg x1)), (wI σ 43 (Int32.toNatClampNeg x1) x3))
                else none
              else
                if inb x1 10 then
                  some ((σ.1 44 (Int32.toNatClampNeg x1)), (wI σ 44 (Int32.toNatClampNeg x1) x3))
                else none
            else none
        else
          some ((-2 : Int32), σ)
      else
        Option.bind (M_in (Int32.toInt64 x3) (0 : Int64) (2 : Int64) σ) fun r33 =>
        if r33 = true then
          if x2 = 0 then
            if inb x1 10 then
              if x2 = 0 then
                if inb x1 10 then
                  some ((σ.1 43 (Int32.toNatClampNeg x1)), (wI σ 43 (Int32.toNatClampNeg x1) x3))
                else none
              else
                if inb x1 10 then
                  some ((σ.1 43 (Int32.toNatClampNeg x1)), (wI σ 44 (Int32.toNatClampNeg x1) x3))
                else none
            else none
          else
            if inb x1 10 then
              if x2 = 0 then
                if inb x1 10 then
                  some ((σ.1 44 (Int32.toNatClampNeg x1)), (wI σ 43 (Int32.toNatClampNeg x1) x3))
                else none
              else
                if inb x1 10 then
                  some ((σ.1 44 (Int32.toNatClampNeg x1)), (wI σ 44 (Int32.toNatClampNeg x1) x3))
                else none
            else none
        else
          some ((-2 : Int32), σ)
    else
      some ((-2 : Int32), σ)
  else
    some ((-2 : Int32), σ)
def M_payFrom_L140 (x1 : Int32) (x2 : Int64) (x6 : Int32) (x7 : Int64) (x9 : Int32) (k64 : Int64 → Int32 → St → Option St) : Nat → Int32 → St → Option St
  | 0, _, _ => none
  | n + 1, x10, σ =>
    if (10 : Int32) ≤ x10 then
      if x9 = 0 then
        k64 (0 : Int64) (x6 + (1 : Int32)) σ
      else
        k64 (x2 - x7) (x6 + (1 : Int32)) σ
    else
      if inb x10 10 then
        if (σ.1 44 (Int32.toNatClampNeg x10)) = x6 then
          if x9 = 0 then
            if inb (((10 : Int32) * x1) + x10) 100 then
              if x7 = 0 then none else
              if inb (((10 : Int32) * x1) + x10) 100 then
                M_payFrom_L140 x1 x2 x6 x7 x9 k64 n (x10 + (1 : Int32)) (wI σ 47 (Int32.toNatClampNeg (((10 : Int32) * x1) + x10)) (Int64.toInt32 (((Int32.toInt64 (σ.1 42 (Int32.toNatClampNeg (((10 : Int32) * x1) + x10)))) * x2) / x7)))
              else none
            else none
          else
            if inb (((10 : Int32) * x1) + x10) 100 then
              if inb (((10 : Int32) * x1) + x10) 100 then
                M_payFrom_L140 x1 x2 x6 x7 x9 k64 n (x10 + (1 : Int32)) (wI σ 47 (Int32.toNatClampNeg (((10 : Int32) * x1) + x10)) (σ.1 42 (Int32.toNatClampNeg (((10 : Int32) * x1) + x10))))
              else none
            else none
        else
          M_payFrom_L140 x1 x2 x6 x7 x9 k64 n (x10 + (1 : Int32)) σ
      else none
def M_payFrom_L76 (x1 : Int32) (x2 : Int64) (x6 : Int32) (σ : St) (k64 : Int64 → Int32 → St → Option St) : Nat → Int64 → Int32 → Option St
  | 0, _, _ => none
  | n + 1, x7, x9 =>
    if (10 : Int32) ≤ x9 then
      if x2 < x7 then
        M_payFrom_L140 x1 x2 x6 x7 (0 : Int32) k64 FU (0 : Int32) σ
      else
        M_payFrom_L140 x1 x2 x6 x7 (1 : Int32) k64 FU (0 : Int32) σ
    else
      if inb x9 10 then
        if (σ.1 44 (Int32.toNatClampNeg x9)) = x6 then
          if inb (((10 : Int32) * x1) + x9) 100 then
            M_payFrom_L76 x1 x2 x6 σ k64 n (x7 + (Int32.toInt64 (σ.1 42 (Int32.toNatClampNeg (((10 : Int32) * x1) + x9))))) (x9 + (1 : Int32))
          else none
        else
          M_payFrom_L76 x1 x2 x6 σ k64 n (x7 + (0 : Int64)) (x9 + (1 : Int32))
      else none
def M_payFrom_L64 (x1 : Int32) : Nat → Int64 → Int32 → St → Option St
  | 0, _, _, _ => none
  | n + 1, x2, x6, σ =>
    if (3 : Int32) ≤ x6 then
      some σ
    else
      M_payFrom_L76 x1 x2 x6 σ (fun y2 y6 τ => M_payFrom_L64 x1 n y2 y6 τ) FU (0 : Int64) (0 : Int32)
def M_payFrom_L14 (x1 : Int32) (σ : St) : Nat → Int64 → Int64 → Int32 → Option St
  | 0, _, _, _ => none
  | n + 1, x2, x4, x6 =>
    if (10 : Int32) ≤ x6 then
      M_payFrom_L64 x1 FU x2 (0 : Int32) σ
    else
      if inb (((10 : Int32) * x6) + x1) 100 then
        if inb (((10 : Int32) * x1) + x6) 100 then
          M_payFrom_L14 x1 σ n (x2 + (Int32.toInt64 (σ.1 46 (Int32.toNatClampNeg (((10 : Int32) * x6) + x1))))) (x4 + (Int32.toInt64 (σ.1 42 (Int32.toNatClampNeg (((10 : Int32) * x1) + x6))))) (x6 + (1 : Int32))
        else none
      else none
def M_payFrom (x1 : Int32) (σ : St) : Option St :=
  if inb x1 10 then
    M_payFrom_L14 x1 σ FU (Int32.toInt64 (σ.1 43 (Int32.toNatClampNeg x1))) (0 : Int64) (0 : Int32)
  else none
def M_fall_L63 (x2 : Int32) (k30 : Int32 → Int32 → St → Option St) : Nat → Int32 → Int32 → St → Option St
  | 0, _, _, _ => none
  | n + 1, x1, x3, σ =>
    if (100 : Int32) ≤ x3 then
      k30 x1 (x2 + (1 : Int32)) σ
    else
      if x1 = 0 then
        if inb x3 100 then
          if inb x3 100 then
            if (σ.1 46 (Int32.toNatClampNeg x3)) = (σ.1 47 (Int32.toNatClampNeg x3)) then
              if inb x3 100 then
                if inb x3 100 then
                  M_fall_L63 x2 k30 n (0 : Int32) (x3 + (1 : Int32)) (wI σ 46 (Int32.toNatClampNeg x3) (σ.1 47 (Int32.toNatClampNeg x3)))
                else none
              else none
            else
              if inb x3 100 then
                if inb x3 100 then
                  M_fall_L63 x2 k30 n (1 : Int32) (x3 + (1 : Int32)) (wI σ 46 (Int32.toNatClampNeg x3) (σ.1 47 (Int32.toNatClampNeg x3)))
                else none
              else none
          else none
        else none
      else
        if inb x3 100 then
          if inb x3 100 then
            M_fall_L63 x2 k30 n (1 : Int32) (x3 + (1 : Int32)) (wI σ 46 (Int32.toNatClampNeg x3) (σ.1 47 (Int32.toNatClampNeg x3)))
          else none
        else none
def M_fall_L42 (x2 : Int32) (k30 : Int32 → Int32 → St → Option St) : Nat → Int32 → St → Option St
  | 0, _, _ => none
  | n + 1, x3, σ =>
    if (10 : Int32) ≤ x3 then
      M_fall_L63 x2 k30 FU (0 : Int32) (0 : Int32) σ
    else
      Option.bind (M_payFrom x3 σ) fun q50 =>
      M_fall_L42 x2 k30 n (x3 + (1 : Int32)) q50
def M_fall_L30  : Nat → Int32 → Int32 → St → Option St
  | 0, _, _, _ => none
  | n + 1, x1, x2, σ =>
    if (60 : Int32) ≤ x2 then
      some σ
    else
      if x1 = 0 then
        some σ
      else
        M_fall_L42 x2 (fun y1 y2 τ => M_fall_L30 n y1 y2 τ) FU (0 : Int32) σ
def M_fall_L2  : Nat → Int32 → St → Option St
  | 0, _, _ => none
  | n + 1, x1, σ =>
    if (100 : Int32) ≤ x1 then
      M_fall_L30 FU (1 : Int32) (0 : Int32) σ
    else
      if inb x1 100 then
        if inb x1 100 then
          M_fall_L2 n (x1 + (1 : Int32)) (wI σ 46 (Int32.toNatClampNeg x1) (σ.1 42 (Int32.toNatClampNeg x1)))
        else none
      else none
def M_fall  (σ : St) : Option St :=
  M_fall_L2 FU (0 : Int32) σ
def M_pays (x1 : Int32) (x2 : Int32) (σ : St) : Option (Int32 × St) :=
  Option.bind (M_isParty x1 σ) fun r1 =>
  if r1 = true then
    Option.bind (M_isParty x2 σ) fun r8 =>
    if r8 = true then
      Option.bind (M_fall σ) fun q18 =>
      if inb (((10 : Int32) * x1) + x2) 100 then
        some ((q18.1 46 (Int32.toNatClampNeg (((10 : Int32) * x1) + x2))), q18)
      else none
    else
      some ((-2 : Int32), σ)
  else
    some ((-2 : Int32), σ)
def M_ruin_L8 (σ : St) : Nat → Int32 → Int32 → Option (Int32 × St)
  | 0, _, _ => none
  | n + 1, x1, x2 =>
    if (100 : Int32) ≤ x2 then
      some (x1, σ)
    else
      if inb x2 100 then
        if inb x2 100 then
          if (σ.1 42 (Int32.toNatClampNeg x2)) ≤ (σ.1 46 (Int32.toNatClampNeg x2)) then
            M_ruin_L8 σ n (x1 ||| (0 : Int32)) (x2 + (1 : Int32))
          else
            M_ruin_L8 σ n (x1 ||| ((1 : Int32) <<< ((x2 / (10 : Int32)) &&& 31))) (x2 + (1 : Int32))
        else none
      else none
def M_ruin  (σ : St) : Option (Int32 × St) :=
  Option.bind (M_fall σ) fun q1 =>
  M_ruin_L8 q1 FU (0 : Int32) (0 : Int32)
def M_round_L126 (x1 : Int32) (x3 : Int32) (x4 : Int32) : Nat → Int32 → St → Option (Int32 × St)
  | 0, _, _ => none
  | n + 1, x6, σ =>
    if x4 ≤ x6 then
      Option.bind (M_refused (((σ.1 0 60) + (1 : Int32)) - (1 : Int32)) (wI σ 0 60 ((σ.1 0 60) + (1 : Int32)))) fun q185 =>
      some (q185.1, q185.2)
    else
      if inb ((((60 : Int32) * x1) + x3) + x6) 240 then
        if inb (((8 : Int32) * (σ.1 0 60)) + x6) 80 then
          M_round_L126 x1 x3 x4 n (x6 + (1 : Int32)) (wI σ 49 (Int32.toNatClampNeg (((8 : Int32) * (σ.1 0 60)) + x6)) (σ.1 61 (Int32.toNatClampNeg ((((60 : Int32) * x1) + x3) + x6))))
        else none
      else none
def M_round_L56 (x1 : Int32) (x3 : Int32) (x4 : Int32) (σ : St) : Nat → Int32 → Option (Int32 × St)
  | 0, _ => none
  | n + 1, x6 =>
    if x4 ≤ x6 then
      if (σ.1 0 60) = (10 : Int32) then
        Option.bind (M_refused (-4 : Int32) σ) fun q108 =>
        some (q108.1, q108.2)
      else
        if inb (σ.1 0 60) 10 then
          M_round_L126 x1 x3 x4 FU (0 : Int32) (wI σ 48 (Int32.toNatClampNeg (σ.1 0 60)) x4)
        else none
    else
      if inb ((((60 : Int32) * x1) + x3) + x6) 240 then
        Option.bind (M_noPlace (σ.1 61 (Int32.toNatClampNeg ((((60 : Int32) * x1) + x3) + x6))) σ) fun r78 =>
        if r78 = true then
          Option.bind (M_refused (-1 : Int32) σ) fun q86 =>
          some (q86.1, q86.2)
        else
          M_round_L56 x1 x3 x4 σ n (x6 + (1 : Int32))
      else none
def M_round (x1 : Int32) (x2 : Int32) (x3 : Int32) (x4 : Int32) (σ : St) : Option (Int32 × St) :=
  Option.bind (M_noSheet x1 σ) fun r1 =>
  if r1 = true then
    Option.bind (M_refused (-1 : Int32) σ) fun q9 =>
    some (q9.1, q9.2)
  else
    Option.bind (M_barred x1 x2 x3 (Int32.toInt64 x4) σ) fun q20 =>
    if 0 ≤ q20.1 then
      Option.bind (M_in (Int32.toInt64 x4) (1 : Int64) (8 : Int64) q20.2) fun r40 =>
      if r40 = true then
        M_round_L56 x1 x3 x4 q20.2 FU (0 : Int32)
      else
        Option.bind (M_refused (-2 : Int32) q20.2) fun q49 =>
        some (q49.1, q49.2)
    else
      some (q20.1, q20.2)
def M_noRound (x1 : Int32) (σ : St) : Option Bool :=
  Option.bind (M_in (Int32.toInt64 x1) (0 : Int64) ((Int32.toInt64 (σ.1 0 60)) - (1 : Int64)) σ) fun r10 =>
  if r10 = true then
    some false
  else
    some true
def M_right (x1 : Int32) (x2 : Int32) (x3 : Int32) (x4 : Int32) (x5 : Int32) (σ : St) : Option (Int32 × St) :=
  Option.bind (M_noBand x1 σ) fun r2 =>
  if r2 = true then
    some ((-1 : Int32), σ)
  else
    Option.bind (M_noRound x2 σ) fun r10 =>
    if r10 = true then
      some ((-1 : Int32), σ)
    else
      Option.bind (M_in (Int32.toInt64 x3) (0 : Int64) (2 : Int64) σ) fun r24 =>
      if r24 = true then
        Option.bind (M_areDays x4 x5 σ) fun r34 =>
        if r34 = true then
          if (σ.1 0 63) = (20 : Int32) then
            some ((-4 : Int32), σ)
          else
            if inb (σ.1 0 63) 20 then
              if inb (σ.1 0 63) 20 then
                if inb (σ.1 0 63) 20 then
                  if inb (σ.1 0 63) 20 then
                    some (((σ.1 0 63) + (1 : Int32)), (wI (wI (wI (wI (wI σ 50 (Int32.toNatClampNeg (σ.1 0 63)) x1) 51 (Int32.toNatClampNeg (σ.1 0 63)) x2) 52 (Int32.toNatClampNeg (σ.1 0 63)) x4) 53 (Int32.toNatClampNeg (σ.1 0 63)) x5) 0 63 ((σ.1 0 63) + (1 : Int32))))
                  else none
                else none
              else none
            else none
        else
          some ((-2 : Int32), σ)
      else
        some ((-2 : Int32), σ)
def M_holder_L27 (x1 : Int32) (x2 : Int32) (σ : St) : Nat → Int32 → Option Int32
  | 0, _ => none
  | n + 1, x3 =>
    if x3 < 0 then
      some (-9 : Int32)
    else
      if inb x3 20 then
        if (σ.1 51 (Int32.toNatClampNeg x3)) = x1 then
          if inb x3 20 then
            if inb x3 20 then
              Option.bind (M_in (Int32.toInt64 x2) (Int32.toInt64 (σ.1 52 (Int32.toNatClampNeg x3))) (Int32.toInt64 (σ.1 53 (Int32.toNatClampNeg x3))) σ) fun r57 =>
              if r57 = true then
                if inb x3 20 then
                  some (σ.1 50 (Int32.toNatClampNeg x3))
                else none
              else
                M_holder_L27 x1 x2 σ n (x3 + (-1 : Int32))
            else none
          else none
        else
          M_holder_L27 x1 x2 σ n (x3 + (-1 : Int32))
      else none
def M_holder (x1 : Int32) (x2 : Int32) (σ : St) : Option Int32 :=
  Option.bind (M_noRound x1 σ) fun r2 =>
  if r2 = true then
    some (-1 : Int32)
  else
    Option.bind (M_isDay x2 σ) fun r11 =>
    if r11 = true then
      M_holder_L27 x1 x2 σ FU ((σ.1 0 63) - (1 : Int32))
    else
      some (-2 : Int32)
def M_two_L31 (x1 : Int32) (x2 : Int32) (x3 : Int32) (σ : St) (k14 : Int32 → Int32 → Option Int32) : Nat → Int32 → Int32 → Int32 → Option Int32
  | 0, _, _, _ => none
  | n + 1, x4, x5, x6 =>
    if (σ.1 0 63) ≤ x6 then
      if x5 = 0 then
        k14 (x2 + (0 : Int32)) (x3 + (1 : Int32))
      else
        k14 (x2 + (1 : Int32)) (x3 + (1 : Int32))
    else
      if inb x6 20 then
        if (σ.1 51 (Int32.toNatClampNeg x6)) = x1 then
          if inb x6 20 then
            if inb x6 20 then
              Option.bind (M_in (Int32.toInt64 x3) (Int32.toInt64 (σ.1 52 (Int32.toNatClampNeg x6))) (Int32.toInt64 (σ.1 53 (Int32.toNatClampNeg x6))) σ) fun r69 =>
              if r69 = true then
                if x5 = 0 then
                  if x4 < 0 then
                    if inb x6 20 then
                      M_two_L31 x1 x2 x3 σ k14 n (σ.1 50 (Int32.toNatClampNeg x6)) (0 : Int32) (x6 + (1 : Int32))
                    else none
                  else
                    if inb x6 20 then
                      if x4 = (σ.1 50 (Int32.toNatClampNeg x6)) then
                        if inb x6 20 then
                          M_two_L31 x1 x2 x3 σ k14 n (σ.1 50 (Int32.toNatClampNeg x6)) (0 : Int32) (x6 + (1 : Int32))
                        else none
                      else
                        if inb x6 20 then
                          M_two_L31 x1 x2 x3 σ k14 n (σ.1 50 (Int32.toNatClampNeg x6)) (1 : Int32) (x6 + (1 : Int32))
                        else none
                    else none
                else
                  if inb x6 20 then
                    M_two_L31 x1 x2 x3 σ k14 n (σ.1 50 (Int32.toNatClampNeg x6)) (1 : Int32) (x6 + (1 : Int32))
                  else none
              else
                M_two_L31 x1 x2 x3 σ k14 n x4 x5 (x6 + (1 : Int32))
            else none
          else none
        else
          M_two_L31 x1 x2 x3 σ k14 n x4 x5 (x6 + (1 : Int32))
      else none
def M_two_L14 (x1 : Int32) (σ : St) : Nat → Int32 → Int32 → Option Int32
  | 0, _, _ => none
  | n + 1, x2, x3 =>
    if (9999 : Int32) < x3 then
      some x2
    else
      M_two_L31 x1 x2 x3 σ (fun y2 y3 => M_two_L14 x1 σ n y2 y3) FU (-9 : Int32) (0 : Int32) (0 : Int32)
def M_two (x1 : Int32) (σ : St) : Option Int32 :=
  Option.bind (M_noRound x1 σ) fun r2 =>
  if r2 = true then
    some (-1 : Int32)
  else
    M_two_L14 x1 σ FU (0 : Int32) (0 : Int32)
def M_walked_L61 (x1 : Int32) (x2 : Int32) (x4 : Int32) (x5 : Int32) (x6 : Int32) (σ : St) (k36 : Int32 → Int32 → Option Int32) : Nat → Int32 → Int32 → Option Int32
  | 0, _, _ => none
  | n + 1, x7, x8 =>
    if (σ.1 0 8) ≤ x8 then
      if x7 < 0 then
        if 0 ≤ x7 then
          if inb x7 40 then
            k36 x5 ((σ.1 8 (Int32.toNatClampNeg x7)) + (1 : Int32))
          else none
        else
          k36 x5 (x4 + (1 : Int32))
      else
        if inb x7 40 then
          if inb (((8 : Int32) * x1) + x5) 80 then
            if (σ.1 6 (Int32.toNatClampNeg x7)) = (σ.1 49 (Int32.toNatClampNeg (((8 : Int32) * x1) + x5))) then
              if 0 ≤ x7 then
                if inb x7 40 then
                  k36 (x5 + (1 : Int32)) ((σ.1 8 (Int32.toNatClampNeg x7)) + (1 : Int32))
                else none
              else
                k36 (x5 + (1 : Int32)) (x4 + (1 : Int32))
            else
              if 0 ≤ x7 then
                if inb x7 40 then
                  k36 (x5 + (0 : Int32)) ((σ.1 8 (Int32.toNatClampNeg x7)) + (1 : Int32))
                else none
              else
                k36 (x5 + (0 : Int32)) (x4 + (1 : Int32))
          else none
        else none
    else
      if inb x8 40 then
        if (σ.1 5 (Int32.toNatClampNeg x8)) = x2 then
          if inb x8 40 then
            if (σ.1 7 (Int32.toNatClampNeg x8)) < x6 then
              M_walked_L61 x1 x2 x4 x5 x6 σ k36 n x7 (x8 + (1 : Int32))
            else
              if inb x8 40 then
                if x4 < (σ.1 8 (Int32.toNatClampNeg x8)) then
                  M_walked_L61 x1 x2 x4 x5 x6 σ k36 n x7 (x8 + (1 : Int32))
                else
                  if x7 < 0 then
                    M_walked_L61 x1 x2 x4 x5 x6 σ k36 n x8 (x8 + (1 : Int32))
                  else
                    if inb x8 40 then
                      if inb x7 40 then
                        if (σ.1 7 (Int32.toNatClampNeg x7)) ≤ (σ.1 7 (Int32.toNatClampNeg x8)) then
                          M_walked_L61 x1 x2 x4 x5 x6 σ k36 n x7 (x8 + (1 : Int32))
                        else
                          M_walked_L61 x1 x2 x4 x5 x6 σ k36 n x8 (x8 + (1 : Int32))
                      else none
                    else none
              else none
          else none
        else
          M_walked_L61 x1 x2 x4 x5 x6 σ k36 n x7 (x8 + (1 : Int32))
      else none
def M_walked_L36 (x1 : Int32) (x2 : Int32) (x4 : Int32) (σ : St) : Nat → Int32 → Int32 → Option Int32
  | 0, _, _ => none
  | n + 1, x5, x6 =>
    if inb x1 10 then
      if (σ.1 48 (Int32.toNatClampNeg x1)) ≤ x5 then
        if inb x1 10 then
          if x5 = (σ.1 48 (Int32.toNatClampNeg x1)) then
            some (1 : Int32)
          else
            some (0 : Int32)
        else none
      else
        if x4 < x6 then
          if inb x1 10 then
            if x5 = (σ.1 48 (Int32.toNatClampNeg x1)) then
              some (1 : Int32)
            else
              some (0 : Int32)
          else none
        else
          M_walked_L61 x1 x2 x4 x5 x6 σ (fun y5 y6 => M_walked_L36 x1 x2 x4 σ n y5 y6) FU (-9 : Int32) (0 : Int32)
    else none
def M_walked (x1 : Int32) (x2 : Int32) (x3 : Int32) (x4 : Int32) (σ : St) : Option Int32 :=
  Option.bind (M_noBand x2 σ) fun r2 =>
  if r2 = true then
    some (-1 : Int32)
  else
    Option.bind (M_noRound x1 σ) fun r10 =>
    if r10 = true then
      some (-1 : Int32)
    else
      Option.bind (M_areDays x3 x4 σ) fun r21 =>
      if r21 = true then
        M_walked_L36 x1 x2 x4 σ FU (0 : Int32) x3
      else
        some (-2 : Int32)
def M_offer (x1 : Int32) (x2 : Int32) (x3 : Int32) (x4 : Int32) (x5 : Int32) (σ : St) : Option (Int32 × St) :=
  Option.bind (M_noBand x1 σ) fun r2 =>
  if r2 = true then
    some ((-1 : Int32), σ)
  else
    Option.bind (M_noHouse x2 σ) fun r10 =>
    if r10 = true then
      some ((-1 : Int32), σ)
    else
      Option.bind (M_noRound x3 σ) fun r18 =>
      if r18 = true then
        some ((-1 : Int32), σ)
      else
        Option.bind (M_in (Int32.toInt64 x4) (0 : Int64) (999999 : Int64) σ) fun r33 =>
        if r33 = true then
          Option.bind (M_in (Int32.toInt64 x5) (-99999 : Int64) (99999 : Int64) σ) fun r48 =>
          if r48 = true then
            if (σ.1 0 68) = (9 : Int32) then
              some ((-4 : Int32), σ)
            else
              if inb (σ.1 0 68) 9 then
                if inb (σ.1 0 68) 9 then
                  if inb (σ.1 0 68) 9 then
                    if inb (σ.1 0 68) 9 then
                      if inb (σ.1 0 68) 9 then
                        some ((((σ.1 0 68) + (1 : Int32)) - (1 : Int32)), (wI (wI (wI (wI (wI (wI σ 54 (Int32.toNatClampNeg (σ.1 0 68)) x1) 55 (Int32.toNatClampNeg (σ.1 0 68)) x2) 56 (Int32.toNatClampNeg (σ.1 0 68)) x3) 57 (Int32.toNatClampNeg (σ.1 0 68)) x4) 58 (Int32.toNatClampNeg (σ.1 0 68)) x5) 0 68 ((σ.1 0 68) + (1 : Int32))))
                      else none
                    else none
                  else none
                else none
              else none
          else
            some ((-2 : Int32), σ)
        else
          some ((-2 : Int32), σ)
def M_gainOf_L4 (x1 : Int32) (σ : St) : Nat → Int32 → Int32 → Option Int32
  | 0, _, _ => none
  | n + 1, x2, x3 =>
    if (σ.1 0 68) ≤ x3 then
      some x2
    else
      Option.bind (M_hasBit (Int32.toInt64 x1) x3 σ) fun r16 =>
      if r16 = true then
        if inb x3 9 then
          M_gainOf_L4 x1 σ n (x2 + (σ.1 58 (Int32.toNatClampNeg x3))) (x3 + (1 : Int32))
        else none
      else
        M_gainOf_L4 x1 σ n (x2 + (0 : Int32)) (x3 + (1 : Int32))
def M_gainOf (x1 : Int32) (σ : St) : Option Int32 :=
  M_gainOf_L4 x1 σ FU (0 : Int32) (0 : Int32)
def M_mayBe_L122 (x1 : Int32) (x2 : Int32) (x3 : Int32) (σ : St) (k108 : Int32 → Int32 → Option Bool) : Nat → Int32 → Int32 → Option Bool
  | 0, _, _ => none
  | n + 1, x4, x5 =>
    if (σ.1 0 68) ≤ x5 then
      if x2 = 0 then
        k108 (0 : Int32) (x3 + (1 : Int32))
      else
        if inb x3 4 then
          if (σ.1 4 (Int32.toNatClampNeg x3)) < x4 then
            k108 (0 : Int32) (x3 + (1 : Int32))
          else
            k108 (1 : Int32) (x3 + (1 : Int32))
        else none
    else
      Option.bind (M_hasBit (Int32.toInt64 x1) x5 σ) fun r137 =>
      if r137 = true then
        if inb x5 9 then
          if (σ.1 55 (Int32.toNatClampNeg x5)) = x3 then
            if inb x5 9 then
              M_mayBe_L122 x1 x2 x3 σ k108 n (x4 + (σ.1 57 (Int32.toNatClampNeg x5))) (x5 + (1 : Int32))
            else none
          else
            M_mayBe_L122 x1 x2 x3 σ k108 n (x4 + (0 : Int32)) (x5 + (1 : Int32))
        else none
      else
        M_mayBe_L122 x1 x2 x3 σ k108 n (x4 + (0 : Int32)) (x5 + (1 : Int32))
def M_mayBe_L108 (x1 : Int32) (σ : St) : Nat → Int32 → Int32 → Option Bool
  | 0, _, _ => none
  | n + 1, x2, x3 =>
    if (σ.1 0 3) ≤ x3 then
      if x2 = 0 then
        some false
      else
        if x2 = 1 then
          some true
        else
          none
    else
      M_mayBe_L122 x1 x2 x3 σ (fun y2 y3 => M_mayBe_L108 x1 σ n y2 y3) FU (0 : Int32) (0 : Int32)
def M_mayBe_L15 (x1 : Int32) (x3 : Int32) (σ : St) (k4 : Int32 → Int32 → Option Bool) : Nat → Int32 → Int32 → Option Bool
  | 0, _, _ => none
  | n + 1, x2, x4 =>
    if x3 ≤ x4 then
      k4 x2 (x3 + (1 : Int32))
    else
      Option.bind (M_hasBit (Int32.toInt64 x1) x3 σ) fun r24 =>
      if r24 = true then
        Option.bind (M_hasBit (Int32.toInt64 x1) x4 σ) fun r34 =>
        if r34 = true then
          if x2 = 0 then
            M_mayBe_L15 x1 x3 σ k4 n (0 : Int32) (x4 + (1 : Int32))
          else
            if inb x3 9 then
              if inb x4 9 then
                if (σ.1 54 (Int32.toNatClampNeg x3)) = (σ.1 54 (Int32.toNatClampNeg x4)) then
                  M_mayBe_L15 x1 x3 σ k4 n (0 : Int32) (x4 + (1 : Int32))
                else
                  if inb x3 9 then
                    if inb x4 9 then
                      if (σ.1 56 (Int32.toNatClampNeg x3)) = (σ.1 56 (Int32.toNatClampNeg x4)) then
                        M_mayBe_L15 x1 x3 σ k4 n (0 : Int32) (x4 + (1 : Int32))
                      else
                        M_mayBe_L15 x1 x3 σ k4 n (1 : Int32) (x4 + (1 : Int32))
                    else none
                  else none
              else none
            else none
        else
          if x2 = 0 then
            M_mayBe_L15 x1 x3 σ k4 n (0 : Int32) (x4 + (1 : Int32))
          else
            M_mayBe_L15 x1 x3 σ k4 n (1 : Int32) (x4 + (1 : Int32))
      else
        if x2 = 0 then
          M_mayBe_L15 x1 x3 σ k4 n (0 : Int32) (x4 + (1 : Int32))
        else
          M_mayBe_L15 x1 x3 σ k4 n (1 : Int32) (x4 + (1 : Int32))
def M_mayBe_L4 (x1 : Int32) (σ : St) : Nat → Int32 → Int32 → Option Bool
  | 0, _, _ => none
  | n + 1, x2, x3 =>
    if (σ.1 0 68) ≤ x3 then
      M_mayBe_L108 x1 σ FU x2 (0 : Int32)
    else
      M_mayBe_L15 x1 x3 σ (fun y2 y3 => M_mayBe_L4 x1 σ n y2 y3) FU x2 (0 : Int32)
def M_mayBe (x1 : Int32) (σ : St) : Option Bool :=
  M_mayBe_L4 x1 σ FU (1 : Int32) (0 : Int32)
def M_best_L17 (x1 : Int32) (σ : St) : Nat → Int32 → Int32 → Option Int32
  | 0, _, _ => none
  | n + 1, x2, x3 =>
    if ((1 : Int32) <<< ((σ.1 0 68) &&& 31)) ≤ x3 then
      if x1 = 0 then
        some x2
      else
        Option.bind (M_gainOf x2 σ) fun r70 =>
        some r70
    else
      Option.bind (M_mayBe x3 σ) fun r29 =>
      if r29 = true then
        Option.bind (M_gainOf x3 σ) fun r37 =>
        Option.bind (M_gainOf x2 σ) fun r42 =>
        if r37 ≤ r42 then
          M_best_L17 x1 σ n x2 (x3 + (1 : Int32))
        else
          M_best_L17 x1 σ n x3 (x3 + (1 : Int32))
      else
        M_best_L17 x1 σ n x2 (x3 + (1 : Int32))
def M_best (x1 : Int32) (σ : St) : Option Int32 :=
  Option.bind (M_in (Int32.toInt64 x1) (0 : Int64) (1 : Int64) σ) fun r4 =>
  if r4 = true then
    M_best_L17 x1 σ FU (0 : Int32) (1 : Int32)
  else
    some (-2 : Int32)
def M_judge (x1 : Int32) (σ : St) : Option Int32 :=
  Option.bind (M_in (Int32.toInt64 x1) (0 : Int64) (((1 : Int64) <<< (Int32.toInt64 (σ.1 0 68) &&& 63)) - (1 : Int64)) σ) fun r11 =>
  if r11 = true then
    Option.bind (M_mayBe x1 σ) fun r19 =>
    if r19 = true then
      some (1 : Int32)
    else
      some (0 : Int32)
  else
    some (-2 : Int32)
def M_sheet_L65 (x1 : Int32) (x3 : Int32) : Nat → Int32 → St → Option (Int32 × St)
  | 0, _, _ => none
  | n + 1, x4, σ =>
    if x3 ≤ x4 then
      Option.bind (M_refused (1 : Int32) σ) fun q92 =>
      some (q92.1, q92.2)
    else
      if inb (((60 : Int32) * x1) + x4) 240 then
        M_sheet_L65 x1 x3 n (x4 + (1 : Int32)) (wI σ 61 (Int32.toNatClampNeg (((60 : Int32) * x1) + x4)) (0 : Int32))
      else none
def M_sheet (x1 : Int32) (x2 : Int32) (x3 : Int32) (σ : St) : Option (Int32 × St) :=
  Option.bind (M_noSheet x1 σ) fun r1 =>
  if r1 = true then
    Option.bind (M_refused (-1 : Int32) σ) fun q9 =>
    some (q9.1, q9.2)
  else
    Option.bind (M_in (Int32.toInt64 x2) (0 : Int64) (2 : Int64) σ) fun r19 =>
    if r19 = true then
      if x3 ≤ (60 : Int32) then
        if 0 ≤ x3 then
          if inb x1 4 then
            if inb x1 4 then
              M_sheet_L65 x1 x3 FU (0 : Int32) (wI (wI σ 59 (Int32.toNatClampNeg x1) x3) 60 (Int32.toNatClampNeg x1) x2)
            else none
          else none
        else
          Option.bind (M_failed (4 : Int32) σ) fun q44 =>
          some (q44.1, q44.2)
      else
        Option.bind (M_refused (-2 : Int32) σ) fun q34 =>
        some (q34.1, q34.2)
    else
      Option.bind (M_refused (-2 : Int32) σ) fun q34 =>
      some (q34.1, q34.2)
def M_lose (x1 : Int32) (σ : St) : Option (Int32 × St) :=
  Option.bind (M_noSheet x1 σ) fun r1 =>
  if r1 = true then
    some ((-1 : Int32), σ)
  else
    if inb x1 4 then
      if 0 ≤ (σ.1 59 (Int32.toNatClampNeg x1)) then
        if inb x1 4 then
          some ((1 : Int32), (wI σ 59 (Int32.toNatClampNeg x1) (-1 : Int32)))
        else none
      else
        if inb x1 4 then
          some ((0 : Int32), (wI σ 59 (Int32.toNatClampNeg x1) (-1 : Int32)))
        else none
    else none
def M_noCell (x1 : Int32) (x2 : Int32) (σ : St) : Option Int32 :=
  if inb x1 4 then
    if 0 ≤ (σ.1 59 (Int32.toNatClampNeg x1)) then
      if inb x1 4 then
        Option.bind (M_in (Int32.toInt64 x2) (0 : Int64) ((Int32.toInt64 (σ.1 59 (Int32.toNatClampNeg x1))) - (1 : Int64)) σ) fun r25 =>
        if r25 = true then
          some (0 : Int32)
        else
          some (3 : Int32)
      else none
    else
      some (1 : Int32)
  else none
def M_put (x1 : Int32) (x2 : Int32) (x3 : Int32) (σ : St) : Option (Int32 × St) :=
  Option.bind (M_noSheet x1 σ) fun r1 =>
  if r1 = true then
    Option.bind (M_refused (-1 : Int32) σ) fun q9 =>
    some (q9.1, q9.2)
  else
    Option.bind (M_noCell x1 x2 σ) fun r16 =>
    if r16 ≤ 0 then
      if inb x1 4 then
        if (σ.1 60 (Int32.toNatClampNeg x1)) = 0 then
          if inb (((60 : Int32) * x1) + x2) 240 then
            Option.bind (M_refused (1 : Int32) (wI σ 61 (Int32.toNatClampNeg (((60 : Int32) * x1) + x2)) ((Int32.toInt8 x3).toInt32))) fun q76 =>
            some (q76.1, q76.2)
          else none
        else
          if inb x1 4 then
            if (σ.1 60 (Int32.toNatClampNeg x1)) = (1 : Int32) then
              if inb (((60 : Int32) * x1) + x2) 240 then
                Option.bind (M_refused (1 : Int32) (wI σ 61 (Int32.toNatClampNeg (((60 : Int32) * x1) + x2)) ((Int32.toInt16 x3).toInt32))) fun q76 =>
                some (q76.1, q76.2)
              else none
            else
              if inb (((60 : Int32) * x1) + x2) 240 then
                Option.bind (M_refused (1 : Int32) (wI σ 61 (Int32.toNatClampNeg (((60 : Int32) * x1) + x2)) x3)) fun q76 =>
                some (q76.1, q76.2)
              else none
          else none
      else none
    else
      Option.bind (M_noCell x1 x2 σ) fun r26 =>
      Option.bind (M_failed r26 σ) fun q29 =>
      some (q29.1, q29.2)
def M_failedLong (x1 : Int32) (σ : St) : Option (Int64 × St) :=
  Option.bind (M_lost (wI σ 0 0 x1)) fun r5 =>
  some (r5, (wI σ 0 0 x1))
def M_cell (x1 : Int32) (x2 : Int32) (x3 : Int32) (σ : St) : Option (Int64 × St) :=
  Option.bind (M_noSheet x1 (wI σ 0 0 (0 : Int32))) fun r6 =>
  if r6 = true then
    Option.bind (M_lost (wI σ 0 0 (0 : Int32))) fun r24 =>
    some (r24, (wI σ 0 0 (0 : Int32)))
  else
    Option.bind (M_in (Int32.toInt64 x3) (0 : Int64) (2 : Int64) (wI σ 0 0 (0 : Int32))) fun r18 =>
    if r18 = true then
      if inb x1 4 then
        if (σ.1 59 (Int32.toNatClampNeg x1)) < 0 then
          Option.bind (M_noCell x1 x2 (wI σ 0 0 (0 : Int32))) fun r56 =>
          if r56 ≤ 0 then
            if inb (((60 : Int32) * x1) + x2) 240 then
              some ((Int32.toInt64 (σ.1 61 (Int32.toNatClampNeg (((60 : Int32) * x1) + x2)))), (wI σ 0 0 (0 : Int32)))
            else none
          else
            Option.bind (M_noCell x1 x2 (wI σ 0 0 (0 : Int32))) fun r66 =>
            Option.bind (M_failedLong r66 (wI σ 0 0 (0 : Int32))) fun q69 =>
            some (q69.1, q69.2)
        else
          if inb x1 4 then
            if (σ.1 60 (Int32.toNatClampNeg x1)) = x3 then
              Option.bind (M_noCell x1 x2 (wI σ 0 0 (0 : Int32))) fun r56 =>
              if r56 ≤ 0 then
                if inb (((60 : Int32) * x1) + x2) 240 then
                  some ((Int32.toInt64 (σ.1 61 (Int32.toNatClampNeg (((60 : Int32) * x1) + x2)))), (wI σ 0 0 (0 : Int32)))
                else none
              else
                Option.bind (M_noCell x1 x2 (wI σ 0 0 (0 : Int32))) fun r66 =>
                Option.bind (M_failedLong r66 (wI σ 0 0 (0 : Int32))) fun q69 =>
                some (q69.1, q69.2)
            else
              Option.bind (M_failedLong (2 : Int32) (wI σ 0 0 (0 : Int32))) fun q49 =>
              some (q49.1, q49.2)
          else none
      else none
    else
      Option.bind (M_lost (wI σ 0 0 (0 : Int32))) fun r24 =>
      some (r24, (wI σ 0 0 (0 : Int32)))
def M_copy_L144 (x3 : Int32) (x4 : Int32) (x5 : Int32) : Nat → Int32 → St → Option (Int32 × St)
  | 0, _, _ => none
  | n + 1, x6, σ =>
    if x5 ≤ x6 then
      Option.bind (M_refused x5 σ) fun q182 =>
      some (q182.1, q182.2)
    else
      if inb x6 60 then
        if inb ((((60 : Int32) * x3) + x4) + x6) 240 then
          M_copy_L144 x3 x4 x5 n (x6 + (1 : Int32)) (wI σ 61 (Int32.toNatClampNeg ((((60 : Int32) * x3) + x4) + x6)) (σ.1 62 (Int32.toNatClampNeg x6)))
        else none
      else none
def M_copy_L107 (x1 : Int32) (x2 : Int32) (x3 : Int32) (x4 : Int32) (x5 : Int32) : Nat → Int32 → St → Option (Int32 × St)
  | 0, _, _ => none
  | n + 1, x6, σ =>
    if x5 ≤ x6 then
      M_copy_L144 x3 x4 x5 FU (0 : Int32) σ
    else
      if inb ((((60 : Int32) * x1) + x2) + x6) 240 then
        if inb x6 60 then
          M_copy_L107 x1 x2 x3 x4 x5 n (x6 + (1 : Int32)) (wI σ 62 (Int32.toNatClampNeg x6) (σ.1 61 (Int32.toNatClampNeg ((((60 : Int32) * x1) + x2) + x6))))
        else none
      else none
def M_copy (x1 : Int32) (x2 : Int32) (x3 : Int32) (x4 : Int32) (x5 : Int32) (σ : St) : Option (Int32 × St) :=
  Option.bind (M_noSheet x1 σ) fun r1 =>
  if r1 = true then
    Option.bind (M_refused (-1 : Int32) σ) fun q16 =>
    some (q16.1, q16.2)
  else
    Option.bind (M_noSheet x3 σ) fun r8 =>
    if r8 = true then
      Option.bind (M_refused (-1 : Int32) σ) fun q16 =>
      some (q16.1, q16.2)
    else
      if inb x1 4 then
        if (σ.1 59 (Int32.toNatClampNeg x1)) < 0 then
          Option.bind (M_failed (1 : Int32) σ) fun q40 =>
          some (q40.1, q40.2)
        else
          if inb x3 4 then
            if 0 ≤ (σ.1 59 (Int32.toNatClampNeg x3)) then
              if inb x1 4 then
                if inb x3 4 then
                  if (σ.1 60 (Int32.toNatClampNeg x1)) = (σ.1 60 (Int32.toNatClampNeg x3)) then
                    if inb x1 4 then
                      Option.bind (M_isBeyond x2 (Int32.toInt64 x5) (σ.1 59 (Int32.toNatClampNeg x1)) σ) fun r75 =>
                      if r75 = true then
                        Option.bind (M_failed (3 : Int32) σ) fun q100 =>
                        some (q100.1, q100.2)
                      else
                        if inb x3 4 then
                          Option.bind (M_isBeyond x4 (Int32.toInt64 x5) (σ.1 59 (Int32.toNatClampNeg x3)) σ) fun r92 =>
                          if r92 = true then
                            Option.bind (M_failed (3 : Int32) σ) fun q100 =>
                            some (q100.1, q100.2)
                          else
                            M_copy_L107 x1 x2 x3 x4 x5 FU (0 : Int32) σ
                        else none
                    else none
                  else
                    Option.bind (M_failed (2 : Int32) σ) fun q61 =>
                    some (q61.1, q61.2)
                else none
              else none
            else
              Option.bind (M_failed (1 : Int32) σ) fun q40 =>
              some (q40.1, q40.2)
          else none
      else none
def M_traced (x1 : Int32) (σ : St) : Option St :=
  some (wI σ 0 78 (((31 : Int32) * (σ.1 0 78)) + x1))
def M_bodies (x1 : Int32) (x2 : Int32) (σ : St) : Option St :=
  if x1 = (2 : Int32) then
    Option.bind (M_traced (x2 + (2 : Int32)) σ) fun q9 =>
    if x1 ≤ 0 then
      Option.bind (M_traced x2 q9) fun q25 =>
      if x1 = (2 : Int32) then
        Option.bind (M_traced x2 q25) fun q35 =>
        some q35
      else
        some q25
    else
      Option.bind (M_traced (x2 + (1 : Int32)) q9) fun q20 =>
      Option.bind (M_traced x2 q20) fun q25 =>
      if x1 = (2 : Int32) then
        Option.bind (M_traced x2 q25) fun q35 =>
        some q35
      else
        some q25
  else
    if x1 ≤ 0 then
      Option.bind (M_traced x2 σ) fun q25 =>
      if x1 = (2 : Int32) then
        Option.bind (M_traced x2 q25) fun q35 =>
        some q35
      else
        some q25
    else
      Option.bind (M_traced (x2 + (1 : Int32)) σ) fun q20 =>
      Option.bind (M_traced x2 q20) fun q25 =>
      if x1 = (2 : Int32) then
        Option.bind (M_traced x2 q25) fun q35 =>
        some q35
      else
        some q25
def M_tell (x1 : Int32) (x2 : Int32) (σ : St) : Option (Int32 × St) :=
  Option.bind (M_in (Int32.toInt64 x1) (0 : Int64) (1 : Int64) σ) fun r4 =>
  if r4 = true then
    if x1 = 0 then
      Option.bind (M_noPack x2 σ) fun r19 =>
      if r19 = true then
        some ((-1 : Int32), σ)
      else
        if x1 = 0 then
          if inb x2 12 then
            if x1 = 0 then
              Option.bind (M_entriesOf x2 σ) fun r64 =>
              if x1 = 0 then
                Option.bind (M_bodies (σ.1 9 (Int32.toNatClampNeg x2)) (1 : Int32) σ) fun q90 =>
                if (σ.1 9 (Int32.toNatClampNeg x2)) = (2 : Int32) then
                  if (σ.1 9 (Int32.toNatClampNeg x2)) = 0 then
                    some ((((2 : Int32) * r64) + (0 : Int32)), q90)
                  else
                    if x1 = 0 then
                      some ((((2 : Int32) * r64) + (10 : Int32)), q90)
                    else
                      some ((((2 : Int32) * r64) + (1 : Int32)), q90)
                else
                  if (σ.1 9 (Int32.toNatClampNeg x2)) = 0 then
                    some ((r64 + (0 : Int32)), q90)
                  else
                    if x1 = 0 then
                      some ((r64 + (10 : Int32)), q90)
                    else
                      some ((r64 + (1 : Int32)), q90)
              else
                Option.bind (M_bodies (σ.1 9 (Int32.toNatClampNeg x2)) (6 : Int32) σ) fun q90 =>
                if (σ.1 9 (Int32.toNatClampNeg x2)) = (2 : Int32) then
                  if (σ.1 9 (Int32.toNatClampNeg x2)) = 0 then
                    some ((((2 : Int32) * r64) + (0 : Int32)), q90)
                  else
                    if x1 = 0 then
                      some ((((2 : Int32) * r64) + (10 : Int32)), q90)
                    else
                      some ((((2 : Int32) * r64) + (1 : Int32)), q90)
                else
                  if (σ.1 9 (Int32.toNatClampNeg x2)) = 0 then
                    some ((r64 + (0 : Int32)), q90)
                  else
                    if x1 = 0 then
                      some ((r64 + (10 : Int32)), q90)
                    else
                      some ((r64 + (1 : Int32)), q90)
            else
              if inb x2 20 then
                if x1 = 0 then
                  Option.bind (M_bodies (σ.1 9 (Int32.toNatClampNeg x2)) (1 : Int32) σ) fun q90 =>
                  if (σ.1 9 (Int32.toNatClampNeg x2)) = (2 : Int32) then
                    if (σ.1 9 (Int32.toNatClampNeg x2)) = 0 then
                      some ((((2 : Int32) * (σ.1 35 (Int32.toNatClampNeg x2))) + (0 : Int32)), q90)
                    else
                      if x1 = 0 then
                        some ((((2 : Int32) * (σ.1 35 (Int32.toNatClampNeg x2))) + (10 : Int32)), q90)
                      else
                        some ((((2 : Int32) * (σ.1 35 (Int32.toNatClampNeg x2))) + (1 : Int32)), q90)
                  else
                    if (σ.1 9 (Int32.toNatClampNeg x2)) = 0 then
                      some (((σ.1 35 (Int32.toNatClampNeg x2)) + (0 : Int32)), q90)
                    else
                      if x1 = 0 then
                        some (((σ.1 35 (Int32.toNatClampNeg x2)) + (10 : Int32)), q90)
                      else
                        some (((σ.1 35 (Int32.toNatClampNeg x2)) + (1 : Int32)), q90)
                else
                  Option.bind (M_bodies (σ.1 9 (Int32.toNatClampNeg x2)) (6 : Int32) σ) fun q90 =>
                  if (σ.1 9 (Int32.toNatClampNeg x2)) = (2 : Int32) then
                    if (σ.1 9 (Int32.toNatClampNeg x2)) = 0 then
                      some ((((2 : Int32) * (σ.1 35 (Int32.toNatClampNeg x2))) + (0 : Int32)), q90)
                    else
                      if x1 = 0 then
                        some ((((2 : Int32) * (σ.1 35 (Int32.toNatClampNeg x2))) + (10 : Int32)), q90)
                      else
                        some ((((2 : Int32) * (σ.1 35 (Int32.toNatClampNeg x2))) + (1 : Int32)), q90)
                  else
                    if (σ.1 9 (Int32.toNatClampNeg x2)) = 0 then
                      some (((σ.1 35 (Int32.toNatClampNeg x2)) + (0 : Int32)), q90)
                    else
                      if x1 = 0 then
                        some (((σ.1 35 (Int32.toNatClampNeg x2)) + (10 : Int32)), q90)
                      else
                        some (((σ.1 35 (Int32.toNatClampNeg x2)) + (1 : Int32)), q90)
              else none
          else none
        else
          if inb x2 20 then
            if x1 = 0 then
              Option.bind (M_entriesOf x2 σ) fun r64 =>
              if x1 = 0 then
                Option.bind (M_bodies (σ.1 32 (Int32.toNatClampNeg x2)) (1 : Int32) σ) fun q90 =>
                if (σ.1 32 (Int32.toNatClampNeg x2)) = (2 : Int32) then
                  if (σ.1 32 (Int32.toNatClampNeg x2)) = 0 then
                    some ((((2 : Int32) * r64) + (0 : Int32)), q90)
                  else
                    if x1 = 0 then
                      some ((((2 : Int32) * r64) + (10 : Int32)), q90)
                    else
                      some ((((2 : Int32) * r64) + (1 : Int32)), q90)
                else
                  if (σ.1 32 (Int32.toNatClampNeg x2)) = 0 then
                    some ((r64 + (0 : Int32)), q90)
                  else
                    if x1 = 0 then
                      some ((r64 + (10 : Int32)), q90)
                    else
                      some ((r64 + (1 : Int32)), q90)
              else
                Option.bind (M_bodies (σ.1 32 (Int32.toNatClampNeg x2)) (6 : Int32) σ) fun q90 =>
                if (σ.1 32 (Int32.toNatClampNeg x2)) = (2 : Int32) then
                  if (σ.1 32 (Int32.toNatClampNeg x2)) = 0 then
                    some ((((2 : Int32) * r64) + (0 : Int32)), q90)
                  else
                    if x1 = 0 then
                      some ((((2 : Int32) * r64) + (10 : Int32)), q90)
                    else
                      some ((((2 : Int32) * r64) + (1 : Int32)), q90)
                else
                  if (σ.1 32 (Int32.toNatClampNeg x2)) = 0 then
                    some ((r64 + (0 : Int32)), q90)
                  else
                    if x1 = 0 then
                      some ((r64 + (10 : Int32)), q90)
                    else
                      some ((r64 + (1 : Int32)), q90)
            else
              if inb x2 20 then
                if x1 = 0 then
                  Option.bind (M_bodies (σ.1 32 (Int32.toNatClampNeg x2)) (1 : Int32) σ) fun q90 =>
                  if (σ.1 32 (Int32.toNatClampNeg x2)) = (2 : Int32) then
                    if (σ.1 32 (Int32.toNatClampNeg x2)) = 0 then
                      some ((((2 : Int32) * (σ.1 35 (Int32.toNatClampNeg x2))) + (0 : Int32)), q90)
                    else
                      if x1 = 0 then
                        some ((((2 : Int32) * (σ.1 35 (Int32.toNatClampNeg x2))) + (10 : Int32)), q90)
                      else
                        some ((((2 : Int32) * (σ.1 35 (Int32.toNatClampNeg x2))) + (1 : Int32)), q90)
                  else
                    if (σ.1 32 (Int32.toNatClampNeg x2)) = 0 then
                      some (((σ.1 35 (Int32.toNatClampNeg x2)) + (0 : Int32)), q90)
                    else
                      if x1 = 0 then
                        some (((σ.1 35 (Int32.toNatClampNeg x2)) + (10 : Int32)), q90)
                      else
                        some (((σ.1 35 (Int32.toNatClampNeg x2)) + (1 : Int32)), q90)
                else
                  Option.bind (M_bodies (σ.1 32 (Int32.toNatClampNeg x2)) (6 : Int32) σ) fun q90 =>
                  if (σ.1 32 (Int32.toNatClampNeg x2)) = (2 : Int32) then
                    if (σ.1 32 (Int32.toNatClampNeg x2)) = 0 then
                      some ((((2 : Int32) * (σ.1 35 (Int32.toNatClampNeg x2))) + (0 : Int32)), q90)
                    else
                      if x1 = 0 then
                        some ((((2 : Int32) * (σ.1 35 (Int32.toNatClampNeg x2))) + (10 : Int32)), q90)
                      else
                        some ((((2 : Int32) * (σ.1 35 (Int32.toNatClampNeg x2))) + (1 : Int32)), q90)
                  else
                    if (σ.1 32 (Int32.toNatClampNeg x2)) = 0 then
                      some (((σ.1 35 (Int32.toNatClampNeg x2)) + (0 : Int32)), q90)
                    else
                      if x1 = 0 then
                        some (((σ.1 35 (Int32.toNatClampNeg x2)) + (10 : Int32)), q90)
                      else
                        some (((σ.1 35 (Int32.toNatClampNeg x2)) + (1 : Int32)), q90)
              else none
          else none
    else
      Option.bind (M_noDebt x2 σ) fun r30 =>
      if r30 = true then
        some ((-1 : Int32), σ)
      else
        if x1 = 0 then
          if inb x2 12 then
            if x1 = 0 then
              Option.bind (M_entriesOf x2 σ) fun r64 =>
              if x1 = 0 then
                Option.bind (M_bodies (σ.1 9 (Int32.toNatClampNeg x2)) (1 : Int32) σ) fun q90 =>
                if (σ.1 9 (Int32.toNatClampNeg x2)) = (2 : Int32) then
                  if (σ.1 9 (Int32.toNatClampNeg x2)) = 0 then
                    some ((((2 : Int32) * r64) + (0 : Int32)), q90)
                  else
                    if x1 = 0 then
                      some ((((2 : Int32) * r64) + (10 : Int32)), q90)
                    else
                      some ((((2 : Int32) * r64) + (1 : Int32)), q90)
                else
                  if (σ.1 9 (Int32.toNatClampNeg x2)) = 0 then
                    some ((r64 + (0 : Int32)), q90)
                  else
                    if x1 = 0 then
                      some ((r64 + (10 : Int32)), q90)
                    else
                      some ((r64 + (1 : Int32)), q90)
              else
                Option.bind (M_bodies (σ.1 9 (Int32.toNatClampNeg x2)) (6 : Int32) σ) fun q90 =>
                if (σ.1 9 (Int32.toNatClampNeg x2)) = (2 : Int32) then
                  if (σ.1 9 (Int32.toNatClampNeg x2)) = 0 then
                    some ((((2 : Int32) * r64) + (0 : Int32)), q90)
                  else
                    if x1 = 0 then
                      some ((((2 : Int32) * r64) + (10 : Int32)), q90)
                    else
                      some ((((2 : Int32) * r64) + (1 : Int32)), q90)
                else
                  if (σ.1 9 (Int32.toNatClampNeg x2)) = 0 then
                    some ((r64 + (0 : Int32)), q90)
                  else
                    if x1 = 0 then
                      some ((r64 + (10 : Int32)), q90)
                    else
                      some ((r64 + (1 : Int32)), q90)
            else
              if inb x2 20 then
                if x1 = 0 then
                  Option.bind (M_bodies (σ.1 9 (Int32.toNatClampNeg x2)) (1 : Int32) σ) fun q90 =>
                  if (σ.1 9 (Int32.toNatClampNeg x2)) = (2 : Int32) then
                    if (σ.1 9 (Int32.toNatClampNeg x2)) = 0 then
                      some ((((2 : Int32) * (σ.1 35 (Int32.toNatClampNeg x2))) + (0 : Int32)), q90)
                    else
                      if x1 = 0 then
                        some ((((2 : Int32) * (σ.1 35 (Int32.toNatClampNeg x2))) + (10 : Int32)), q90)
                      else
                        some ((((2 : Int32) * (σ.1 35 (Int32.toNatClampNeg x2))) + (1 : Int32)), q90)
                  else
                    if (σ.1 9 (Int32.toNatClampNeg x2)) = 0 then
                      some (((σ.1 35 (Int32.toNatClampNeg x2)) + (0 : Int32)), q90)
                    else
                      if x1 = 0 then
                        some (((σ.1 35 (Int32.toNatClampNeg x2)) + (10 : Int32)), q90)
                      else
                        some (((σ.1 35 (Int32.toNatClampNeg x2)) + (1 : Int32)), q90)
                else
                  Option.bind (M_bodies (σ.1 9 (Int32.toNatClampNeg x2)) (6 : Int32) σ) fun q90 =>
                  if (σ.1 9 (Int32.toNatClampNeg x2)) = (2 : Int32) then
                    if (σ.1 9 (Int32.toNatClampNeg x2)) = 0 then
                      some ((((2 : Int32) * (σ.1 35 (Int32.toNatClampNeg x2))) + (0 : Int32)), q90)
                    else
                      if x1 = 0 then
                        some ((((2 : Int32) * (σ.1 35 (Int32.toNatClampNeg x2))) + (10 : Int32)), q90)
                      else
                        some ((((2 : Int32) * (σ.1 35 (Int32.toNatClampNeg x2))) + (1 : Int32)), q90)
                  else
                    if (σ.1 9 (Int32.toNatClampNeg x2)) = 0 then
                      some (((σ.1 35 (Int32.toNatClampNeg x2)) + (0 : Int32)), q90)
                    else
                      if x1 = 0 then
                        some (((σ.1 35 (Int32.toNatClampNeg x2)) + (10 : Int32)), q90)
                      else
                        some (((σ.1 35 (Int32.toNatClampNeg x2)) + (1 : Int32)), q90)
              else none
          else none
        else
          if inb x2 20 then
            if x1 = 0 then
              Option.bind (M_entriesOf x2 σ) fun r64 =>
              if x1 = 0 then
                Option.bind (M_bodies (σ.1 32 (Int32.toNatClampNeg x2)) (1 : Int32) σ) fun q90 =>
                if (σ.1 32 (Int32.toNatClampNeg x2)) = (2 : Int32) then
                  if (σ.1 32 (Int32.toNatClampNeg x2)) = 0 then
                    some ((((2 : Int32) * r64) + (0 : Int32)), q90)
                  else
                    if x1 = 0 then
                      some ((((2 : Int32) * r64) + (10 : Int32)), q90)
                    else
                      some ((((2 : Int32) * r64) + (1 : Int32)), q90)
                else
                  if (σ.1 32 (Int32.toNatClampNeg x2)) = 0 then
                    some ((r64 + (0 : Int32)), q90)
                  else
                    if x1 = 0 then
                      some ((r64 + (10 : Int32)), q90)
                    else
                      some ((r64 + (1 : Int32)), q90)
              else
                Option.bind (M_bodies (σ.1 32 (Int32.toNatClampNeg x2)) (6 : Int32) σ) fun q90 =>
                if (σ.1 32 (Int32.toNatClampNeg x2)) = (2 : Int32) then
                  if (σ.1 32 (Int32.toNatClampNeg x2)) = 0 then
                    some ((((2 : Int32) * r64) + (0 : Int32)), q90)
                  else
                    if x1 = 0 then
                      some ((((2 : Int32) * r64) + (10 : Int32)), q90)
                    else
                      some ((((2 : Int32) * r64) + (1 : Int32)), q90)
                else
                  if (σ.1 32 (Int32.toNatClampNeg x2)) = 0 then
                    some ((r64 + (0 : Int32)), q90)
                  else
                    if x1 = 0 then
                      some ((r64 + (10 : Int32)), q90)
                    else
                      some ((r64 + (1 : Int32)), q90)
            else
              if inb x2 20 then
                if x1 = 0 then
                  Option.bind (M_bodies (σ.1 32 (Int32.toNatClampNeg x2)) (1 : Int32) σ) fun q90 =>
                  if (σ.1 32 (Int32.toNatClampNeg x2)) = (2 : Int32) then
                    if (σ.1 32 (Int32.toNatClampNeg x2)) = 0 then
                      some ((((2 : Int32) * (σ.1 35 (Int32.toNatClampNeg x2))) + (0 : Int32)), q90)
                    else
                      if x1 = 0 then
                        some ((((2 : Int32) * (σ.1 35 (Int32.toNatClampNeg x2))) + (10 : Int32)), q90)
                      else
                        some ((((2 : Int32) * (σ.1 35 (Int32.toNatClampNeg x2))) + (1 : Int32)), q90)
                  else
                    if (σ.1 32 (Int32.toNatClampNeg x2)) = 0 then
                      some (((σ.1 35 (Int32.toNatClampNeg x2)) + (0 : Int32)), q90)
                    else
                      if x1 = 0 then
                        some (((σ.1 35 (Int32.toNatClampNeg x2)) + (10 : Int32)), q90)
                      else
                        some (((σ.1 35 (Int32.toNatClampNeg x2)) + (1 : Int32)), q90)
                else
                  Option.bind (M_bodies (σ.1 32 (Int32.toNatClampNeg x2)) (6 : Int32) σ) fun q90 =>
                  if (σ.1 32 (Int32.toNatClampNeg x2)) = (2 : Int32) then
                    if (σ.1 32 (Int32.toNatClampNeg x2)) = 0 then
                      some ((((2 : Int32) * (σ.1 35 (Int32.toNatClampNeg x2))) + (0 : Int32)), q90)
                    else
                      if x1 = 0 then
                        some ((((2 : Int32) * (σ.1 35 (Int32.toNatClampNeg x2))) + (10 : Int32)), q90)
                      else
                        some ((((2 : Int32) * (σ.1 35 (Int32.toNatClampNeg x2))) + (1 : Int32)), q90)
                  else
                    if (σ.1 32 (Int32.toNatClampNeg x2)) = 0 then
                      some (((σ.1 35 (Int32.toNatClampNeg x2)) + (0 : Int32)), q90)
                    else
                      if x1 = 0 then
                        some (((σ.1 35 (Int32.toNatClampNeg x2)) + (10 : Int32)), q90)
                      else
                        some (((σ.1 35 (Int32.toNatClampNeg x2)) + (1 : Int32)), q90)
              else none
          else none
  else
    some ((-2 : Int32), σ)
def M_show (x1 : Int32) (σ : St) : Option (Int32 × St) :=
  Option.bind (M_noPack x1 σ) fun r2 =>
  if r2 = true then
    some ((-1 : Int32), σ)
  else
    if inb x1 12 then
      if (σ.1 9 (Int32.toNatClampNeg x1)) = (2 : Int32) then
        Option.bind (M_traced (5 : Int32) σ) fun q26 =>
        if inb x1 12 then
          if (q26.1 9 (Int32.toNatClampNeg x1)) = (2 : Int32) then
            some ((60 : Int32), q26)
          else
            some (x1, q26)
        else none
      else
        Option.bind (M_traced (4 : Int32) σ) fun q26 =>
        if inb x1 12 then
          if (q26.1 9 (Int32.toNatClampNeg x1)) = (2 : Int32) then
            some ((60 : Int32), q26)
          else
            some (x1, q26)
        else none
    else none
def M_taken (x1 : Int32) (x2 : Int32) (x3 : Int32) (σ : St) : Option (Int32 × St) :=
  Option.bind (M_in (Int32.toInt64 x1) (0 : Int64) (1 : Int64) σ) fun r4 =>
  if r4 = true then
    Option.bind (M_in (Int32.toInt64 x3) (0 : Int64) (2 : Int64) σ) fun r16 =>
    if r16 = true then
      if x1 = 0 then
        Option.bind (M_noPack x2 σ) fun r35 =>
        if r35 = true then
          Option.bind (M_refused (-1 : Int32) σ) fun q54 =>
          some (q54.1, q54.2)
        else
          if x1 = 0 then
            if inb x2 12 then
              if (σ.1 9 (Int32.toNatClampNeg x2)) < x3 then
                Option.bind (M_failed (2 : Int32) σ) fun q91 =>
                some (q91.1, q91.2)
              else
                Option.bind (M_refused (1 : Int32) σ) fun q83 =>
                some (q83.1, q83.2)
            else none
          else
            if inb x2 20 then
              if (σ.1 32 (Int32.toNatClampNeg x2)) < x3 then
                Option.bind (M_failed (2 : Int32) σ) fun q91 =>
                some (q91.1, q91.2)
              else
                Option.bind (M_refused (1 : Int32) σ) fun q83 =>
                some (q83.1, q83.2)
            else none
      else
        Option.bind (M_noDebt x2 σ) fun r46 =>
        if r46 = true then
          Option.bind (M_refused (-1 : Int32) σ) fun q54 =>
          some (q54.1, q54.2)
        else
          if x1 = 0 then
            if inb x2 12 then
              if (σ.1 9 (Int32.toNatClampNeg x2)) < x3 then
                Option.bind (M_failed (2 : Int32) σ) fun q91 =>
                some (q91.1, q91.2)
              else
                Option.bind (M_refused (1 : Int32) σ) fun q83 =>
                some (q83.1, q83.2)
            else none
          else
            if inb x2 20 then
              if (σ.1 32 (Int32.toNatClampNeg x2)) < x3 then
                Option.bind (M_failed (2 : Int32) σ) fun q91 =>
                some (q91.1, q91.2)
              else
                Option.bind (M_refused (1 : Int32) σ) fun q83 =>
                some (q83.1, q83.2)
            else none
    else
      Option.bind (M_refused (-2 : Int32) σ) fun q25 =>
      some (q25.1, q25.2)
  else
    Option.bind (M_refused (-2 : Int32) σ) fun q25 =>
    some (q25.1, q25.2)
def M_trace  (σ : St) : Option Int32 :=
  some (σ.1 0 78)
def M_fault  (σ : St) : Option Int32 :=
  some (σ.1 0 0)
def M_many (x1 : Int32) (σ : St) : Option Int32 :=
  if x1 = (0 : Int32) then
    some (σ.1 0 1)
  else
    if x1 = (1 : Int32) then
      some (σ.1 0 2)
    else
      if x1 = (2 : Int32) then
        some (σ.1 0 3)
      else
        if x1 = (3 : Int32) then
          some (σ.1 0 8)
        else
          if x1 = (4 : Int32) then
            some (σ.1 0 13)
          else
            if x1 = (5 : Int32) then
              some (σ.1 0 17)
            else
              if x1 = (6 : Int32) then
                some (σ.1 0 26)
              else
                if x1 = (7 : Int32) then
                  some (σ.1 0 41)
                else
                  if x1 = (8 : Int32) then
                    some (σ.1 0 60)
                  else
                    if x1 = (9 : Int32) then
                      some (σ.1 0 68)
                    else
                      some (-2 : Int32)
