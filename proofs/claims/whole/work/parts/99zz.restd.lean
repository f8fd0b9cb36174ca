/-! rows that rest, the class: what the methods do once the array stands (object 76) -/
def fX6_findRests_c66b (N : Nat) (o1 : Nat) (K66 : Int → Int → zH → Option (Int × zH)) (l2 : Int) (l3 : Int) (h : zH) : Option (Int × zH) :=
  if zw l2 ≤ zw l3 then
    zlet (zs h 12 5 1) fun h2 =>
    some (h2 12 4, h2)
  else
    z2 (fX6_chooseNth N o1 l3 h) fun v4 h3 =>
    z2 (fX6_isAtRest N o1 h3) fun v6 h5 =>
    if zw v6 = 0 then
      K66 l2 (l3 + 1) h5
    else
      zlet (fX10_put 76 (h5 12 4) v4 h5) fun h8 =>
      zlet (zs h8 12 4 ((h8 12 4) + 1)) fun h9 =>
      K66 l2 (l3 + 1) h9
def fX6_findRests_c66 (N : Nat) (o1 : Nat) : Nat → Int → Int → zH → Option (Int × zH)
  | 0 => fun _ _ _ => none
  | k + 1 => fX6_findRests_c66b N o1 (fX6_findRests_c66 N o1 k)
def fX6_findRests_c42b (N : Nat) (o1 : Nat) (K42 : Int → Int → zH → Option (Int × zH)) (l2 : Int) (l3 : Int) (h : zH) : Option (Int × zH) :=
  if zw (fX1_many o1 1 h) ≤ zw l3 then
    fX6_findRests_c66 N o1 N l2 0 h
  else
    zlet (l2 * (h 12 2)) fun v2 =>
    K42 v2 (l3 + 1) h
def fX6_findRests_c42 (N : Nat) (o1 : Nat) : Nat → Int → Int → zH → Option (Int × zH)
  | 0 => fun _ _ _ => none
  | k + 1 => fX6_findRests_c42b N o1 (fX6_findRests_c42 N o1 k)
def fX6_findRests (N : Nat) (o1 : Nat) (h : zH) : Option (Int × zH) :=
  if zw (h 12 5) = 0 then
    zb (fX6_listForms N o1 h) fun h2 =>
    zlet (zs h2 12 4 0) fun h3 =>
    fX6_findRests_c42 N o1 N 1 0 h3
  else
    some (h 12 4, h)
def fX6_rest (a1 : Int) (h : zH) : Int :=
  if zw (h 12 5) = 0 then
    (-1)
  else
    if zw a1 < 0 then
      (-1)
    else
      if zw (h 12 4) ≤ zw a1 then
        (-1)
      else
        fX10_at 76 a1 h
def fX10_rests (N : Nat) (a1 : Int) (h : zH) : Option (Int × zH) :=
  if zw (fX10_hasHill h) = 0 then
    some ((-1), h)
  else
    if zw (fX1_many 2 1 h) ≤ zw 5 then
      z2 (fX6_findRests N 2 h) fun v4 h3 =>
      if zw a1 = zw (-1) then
        some (v4, h3)
      else
        some (fX6_rest a1 h3, h3)
    else
      some ((-1000000), h)
