/-! what each method does, by program out of its bytecode -/
def zats (i : Nat) (a : Int) : Int := if zw a < 0 then (-1) else if ((zSv i).length : Int) ≤ zw a then (-1) else (zSv i).getD (zw a).toNat 0
def zTn (i : Nat) : Int := (zTb i).length
def zTc (i j : Nat) : Int := (zTb i).getD j 0
def fJ9_max_7cf53 (a0 : Int) (a1 : Int) : Int :=
  if zw a0 < zw a1 then
    a1
  else
    a0
def fX9_bytesIn_c5b (N : Nat) (K5 : Int → Int → Int → Option Int) (l0 : Int) (l1 : Int) (l2 : Int) : Option Int :=
  if zw l2 < 0 then
    some l1
  else
    if zw (zand (zushr l0 l2) 255) = 0 then
      K5 l0 (l1 + 0) (l2 + (-8))
    else
      K5 l0 (l1 + 1) (l2 + (-8))
def fX9_bytesIn_c5 (N : Nat) : Nat → Int → Int → Int → Option Int
  | 0 => fun _ _ _ => none
  | k + 1 => fX9_bytesIn_c5b N (fX9_bytesIn_c5 N k)
def fX9_bytesIn (N : Nat) (a0 : Int) : Option Int :=
  fX9_bytesIn_c5 N N a0 0 24
def fX10_put (o0 : Nat) (a1 : Int) (a2 : Int) (h : zH) : zH :=
  if zw a1 < 0 then
    h
  else
    if zw (zln o0 : Int) ≤ zw a1 then
      h
    else
      zlet (zs h o0 (zw a1).toNat a2) fun h3 =>
      h3
def fX9_append_c3b (N : Nat) (K3 : Int → Int → zH → Option zH) (l1 : Int) (l2 : Int) (h : zH) : Option zH :=
  if zw l2 < 0 then
    some h
  else
    zlet (zand (zushr l1 l2) 255) fun v2 =>
    if zw v2 = 0 then
      K3 l1 (l2 + (-8)) h
    else
      if zw 240 ≤ zw (h 1 1) then
        K3 l1 (l2 + (-8)) h
      else
        zlet (fX10_put 15 (h 1 1) v2 h) fun h5 =>
        zlet (zs h5 1 1 ((h5 1 1) + 1)) fun h6 =>
        K3 l1 (l2 + (-8)) h6
def fX9_append_c3 (N : Nat) : Nat → Int → Int → zH → Option zH
  | 0 => fun _ _ _ => none
  | k + 1 => fX9_append_c3b N (fX9_append_c3 N k)
def fX9_append (N : Nat) (a1 : Int) (h : zH) : Option zH :=
  fX9_append_c3 N N a1 24 h
def fX10_feed (N : Nat) (a1 : Int) (a2 : Int) (a3 : Int) (a4 : Int) (a5 : Int) (h : zH) : Option (Int × zH) :=
  zb (fX9_bytesIn N a1) fun v1 =>
  zb (fX9_bytesIn N a2) fun v2 =>
  zb (fX9_bytesIn N a3) fun v3 =>
  zb (fX9_bytesIn N a4) fun v4 =>
  zb (fX9_bytesIn N a5) fun v5 =>
  zlet ((((v1 + v2) + v3) + v4) + v5) fun v6 =>
  if zw ((h 1 1) + v6) ≤ zw 240 then
    zb (fX9_append N a1 h) fun h8 =>
    zb (fX9_append N a2 h8) fun h9 =>
    zb (fX9_append N a3 h9) fun h10 =>
    zb (fX9_append N a4 h10) fun h11 =>
    zb (fX9_append N a5 h11) fun h12 =>
    some (h12 1 1, h12)
  else
    some ((-1), h)
def fX10_end (a1 : Int) (h : zH) : (Int × zH) :=
  if zw a1 < 0 then
    (0, h)
  else
    if zw a1 ≤ zw (h 1 1) then
      zlet (zs h 1 1 a1) fun h3 =>
      (1, h3)
    else
      (0, h)
def fX9_rewind (h : zH) : zH :=
  zlet (zs h 1 2 0) fun h1 =>
  zlet (zs h1 1 3 (-1)) fun h2 =>
  h2
def fJ7_fill_53178_c5b (N : Nat) (o0 : Nat) (K5 : Int → Int → Int → zH → Option zH) (l1 : Int) (l2 : Int) (l3 : Int) (h : zH) : Option zH :=
  if zw l3 ≤ zw l2 then
    some h
  else
    if 0 ≤ zw l2 ∧ zw l2 < (zln o0 : Int) then
    zlet (zs h o0 (zw l2).toNat l1) fun h3 =>
    K5 l1 (l2 + 1) l3 h3 else none
def fJ7_fill_53178_c5 (N : Nat) (o0 : Nat) : Nat → Int → Int → Int → zH → Option zH
  | 0 => fun _ _ _ _ => none
  | k + 1 => fJ7_fill_53178_c5b N o0 (fJ7_fill_53178_c5 N o0 k)
def fJ7_fill_53178 (N : Nat) (o0 : Nat) (a1 : Int) (h : zH) : Option zH :=
  fJ7_fill_53178_c5 N o0 N a1 0 (zln o0 : Int) h
def fX1_cellOf (a0 : Int) (a1 : Int) (a2 : Int) : Int :=
  (((a0 * 8) + a1) * 4) + a2
def fX10_at (o0 : Nat) (a1 : Int) (h : zH) : Int :=
  if zw a1 < 0 then
    (-1)
  else
    if zw (zln o0 : Int) ≤ zw a1 then
      (-1)
    else
      h o0 (zw a1).toNat
def fX1_useUntold_c2b (N : Nat) (o0 : Nat) (K2 : Int → Int → Int → zH → Option zH) (l1 : Int) (l2 : Int) (l3 : Int) (h : zH) : Option zH :=
  if zw 4 ≤ zw l3 then
    some h
  else
    zlet (fX10_put (zfr o0 0) (fX1_cellOf l1 l2 l3) (zats 0 ((l1 * 4) + l3)) h) fun h2 =>
    K2 l1 l2 (l3 + 1) h2
def fX1_useUntold_c2 (N : Nat) (o0 : Nat) : Nat → Int → Int → Int → zH → Option zH
  | 0 => fun _ _ _ _ => none
  | k + 1 => fX1_useUntold_c2b N o0 (fX1_useUntold_c2 N o0 k)
def fX1_useUntold (N : Nat) (o0 : Nat) (a1 : Int) (a2 : Int) (h : zH) : Option zH :=
  fX1_useUntold_c2 N o0 N a1 a2 0 h
def fX9_next_c0b (N : Nat) (K0 : zH → Option (Int × zH)) (h : zH) : Option (Int × zH) :=
  if zw (h 1 1) ≤ zw (h 1 2) then
    if zw (h 1 3) = zw (-1) then
      if zw (h 1 2) < zw (h 1 1) then
        some (fX10_at 15 (h 1 2) h, h)
      else
        some ((-1), h)
    else
      some ((-1), h)
  else
    if zw (fX10_at 15 (h 1 2) h) = zw 32 then
      zlet (zs h 1 2 ((h 1 2) + 1)) fun h5 =>
      K0 h5
    else
      if zw (h 1 3) = zw (-1) then
        if zw (h 1 2) < zw (h 1 1) then
          some (fX10_at 15 (h 1 2) h, h)
        else
          some ((-1), h)
      else
        some ((-1), h)
def fX9_next_c0 (N : Nat) : Nat → zH → Option (Int × zH)
  | 0 => fun _ => none
  | k + 1 => fX9_next_c0b N (fX9_next_c0 N k)
def fX9_next (N : Nat) (h : zH) : Option (Int × zH) :=
  fX9_next_c0 N N h
def fX10_placeIn_c2b (N : Nat) (t0 : Nat) (K2 : Int → Int → Option Int) (l1 : Int) (l2 : Int) : Option Int :=
  if zw (zTn t0) ≤ zw l2 then
    some (-1)
  else
    if 0 ≤ zw l2 ∧ zw l2 < zTn t0 then
    if zw (zTc t0 (zw l2).toNat) = zw l1 then
      some l2
    else
      K2 l1 (l2 + 1) else none
def fX10_placeIn_c2 (N : Nat) (t0 : Nat) : Nat → Int → Int → Option Int
  | 0 => fun _ _ => none
  | k + 1 => fX10_placeIn_c2b N t0 (fX10_placeIn_c2 N t0 k)
def fX10_placeIn (N : Nat) (t0 : Nat) (a1 : Int) : Option Int :=
  fX10_placeIn_c2 N t0 N a1 0
def fX1_many (o0 : Nat) (a1 : Int) (h : zH) : Int :=
  fX10_at (zfr o0 1) a1 h
def fX9_blame (a1 : Int) (h : zH) : zH :=
  if zw (h 1 3) = zw (-1) then
    zlet (zs h 1 3 a1) fun h2 =>
    h2
  else
    h
def fX1_itemOf_c2b (N : Nat) (K2 : Int → Int → Int → Option Int) (l0 : Int) (l1 : Int) (l2 : Int) : Option Int :=
  if zw 4 ≤ zw l2 then
    some (-1)
  else
    if zw ((l0 * 4) + l2) < 0 then
      K2 l0 l1 (l2 + 1)
    else
      if zw 16 ≤ zw ((l0 * 4) + l2) then
        K2 l0 l1 (l2 + 1)
      else
        if 0 ≤ zw ((l0 * 4) + l2) ∧ zw ((l0 * 4) + l2) < zTn 1 then
        if zw (zTc 1 (zw ((l0 * 4) + l2)).toNat) = zw l1 then
          some l2
        else
          K2 l0 l1 (l2 + 1) else none
def fX1_itemOf_c2 (N : Nat) : Nat → Int → Int → Int → Option Int
  | 0 => fun _ _ _ => none
  | k + 1 => fX1_itemOf_c2b N (fX1_itemOf_c2 N k)
def fX1_itemOf (N : Nat) (a0 : Int) (a1 : Int) : Option Int :=
  fX1_itemOf_c2 N N a0 a1 0
def fX10_isIn (a0 : Int) (a1 : Int) : Int :=
  if zw a1 < 0 then
    0
  else
    if zw 8 ≤ zw a1 then
      0
    else
      if zw (zand (zshr a0 a1) 1) = zw 1 then
        1
      else
        0
def fX9_isDigit (a0 : Int) : Int :=
  if zw a0 < zw 48 then
    0
  else
    if zw 57 < zw a0 then
      0
    else
      1
def fX9_number_c10b (N : Nat) (K10 : Int → Int → Int → Int → zH → Option (Int × zH)) (l1 : Int) (l2 : Int) (l3 : Int) (l4 : Int) (h : zH) : Option (Int × zH) :=
  if zw l1 ≤ zw l4 then
    if zw l4 = 0 then
      zlet (fX9_blame (h 1 2) h) fun h3 =>
      some (l3, h3)
    else
      if zw (fX9_isDigit l2) = 0 then
        some (l3, h)
      else
        zlet (fX9_blame (h 1 2) h) fun h5 =>
        some (l3, h5)
  else
    if zw (fX9_isDigit l2) = 0 then
      if zw l4 = 0 then
        zlet (fX9_blame (h 1 2) h) fun h8 =>
        some (l3, h8)
      else
        if zw (fX9_isDigit l2) = 0 then
          some (l3, h)
        else
          zlet (fX9_blame (h 1 2) h) fun h10 =>
          some (l3, h10)
    else
      zlet (((l3 * 10) + l2) - 48) fun v11 =>
      zlet (zs h 1 2 ((h 1 2) + 1)) fun h12 =>
      if zw (h12 1 1) ≤ zw (h12 1 2) then
        K10 l1 (-1) v11 (l4 + 1) h12
      else
        zlet (fX10_at 15 (h12 1 2) h12) fun v14 =>
        K10 l1 v14 v11 (l4 + 1) h12
def fX9_number_c10 (N : Nat) : Nat → Int → Int → Int → Int → zH → Option (Int × zH)
  | 0 => fun _ _ _ _ _ => none
  | k + 1 => fX9_number_c10b N (fX9_number_c10 N k)
def fX9_number (N : Nat) (a1 : Int) (h : zH) : Option (Int × zH) :=
  z2 (fX9_next N h) fun v2 h1 =>
  fX9_number_c10 N N a1 v2 0 0 h1
def fX1_readItems_c16b (N : Nat) (o0 : Nat) (K16 : Int → Int → Int → Int → Int → zH → Option zH) (l2 : Int) (l3 : Int) (l4 : Int) (l5 : Int) (l6 : Int) (h : zH) : Option zH :=
  if zw 4 ≤ zw l6 then
    some h
  else
    if zw l5 = zw (-1) then
      some h
    else
      if zw (fX10_isIn l4 l5) = 0 then
        zlet (zor l4 (zshl 1 l5)) fun v4 =>
        zlet (zs h 1 2 ((h 1 2) + 1)) fun h5 =>
        z2 (fX9_number N 2 h5) fun v7 h6 =>
        if zw v7 < zw (zats 2 ((l2 * 4) + l5)) then
          zlet (fX9_blame ((h6 1 2) - 1) h6) fun h9 =>
          zlet (fX10_put (zfr o0 0) (fX1_cellOf l2 l3 l5) v7 h9) fun h10 =>
          z2 (fX9_next N h10) fun v12 h11 =>
          zb (fX1_itemOf N l2 v12) fun v13 =>
          K16 l2 l3 v4 v13 (l6 + 1) h11
        else
          if zw v7 ≤ zw (zats 3 ((l2 * 4) + l5)) then
            zlet (fX10_put (zfr o0 0) (fX1_cellOf l2 l3 l5) v7 h6) fun h15 =>
            z2 (fX9_next N h15) fun v17 h16 =>
            zb (fX1_itemOf N l2 v17) fun v18 =>
            K16 l2 l3 v4 v18 (l6 + 1) h16
          else
            zlet (fX9_blame ((h6 1 2) - 1) h6) fun h19 =>
            zlet (fX10_put (zfr o0 0) (fX1_cellOf l2 l3 l5) v7 h19) fun h20 =>
            z2 (fX9_next N h20) fun v22 h21 =>
            zb (fX1_itemOf N l2 v22) fun v23 =>
            K16 l2 l3 v4 v23 (l6 + 1) h21
      else
        some h
def fX1_readItems_c16 (N : Nat) (o0 : Nat) : Nat → Int → Int → Int → Int → Int → zH → Option zH
  | 0 => fun _ _ _ _ _ _ => none
  | k + 1 => fX1_readItems_c16b N o0 (fX1_readItems_c16 N o0 k)
def fX1_readItems (N : Nat) (o0 : Nat) (a2 : Int) (a3 : Int) (h : zH) : Option zH :=
  z2 (fX9_next N h) fun v2 h1 =>
  zb (fX1_itemOf N a2 v2) fun v3 =>
  fX1_readItems_c16 N o0 N a2 a3 0 v3 0 h1
def fX1_readClause (N : Nat) (o0 : Nat) (h : zH) : Option zH :=
  z2 (fX9_next N h) fun v2 h1 =>
  zb (fX10_placeIn N 0 v2) fun v3 =>
  if zw v3 < 0 then
    zlet (fX9_blame (h1 1 2) h1) fun h5 =>
    some h5
  else
    if zw (fX1_many o0 v3 h1) < zw (zats 1 v3) then
      zlet (zs h1 1 2 ((h1 1 2) + 1)) fun h7 =>
      zlet (fX1_many o0 v3 h7) fun v8 =>
      zlet (fX10_put (zfr o0 1) v3 (v8 + 1) h7) fun h9 =>
      zb (fX1_useUntold N o0 v3 v8 h9) fun h10 =>
      zb (fX1_readItems N o0 v3 v8 h10) fun h11 =>
      some h11
    else
      zlet (fX9_blame (h1 1 2) h1) fun h12 =>
      some h12
def fX9_take (N : Nat) (a1 : Int) (h : zH) : Option (Int × zH) :=
  z2 (fX9_next N h) fun v2 h1 =>
  if zw v2 = zw a1 then
    zlet (zs h1 1 2 ((h1 1 2) + 1)) fun h4 =>
    some (1, h4)
  else
    some (0, h1)
def fX9_close (N : Nat) (h : zH) : Option (Int × zH) :=
  z2 (fX9_next N h) fun v2 h1 =>
  if zw v2 = zw (-1) then
    some (h1 1 3, h1)
  else
    zlet (fX9_blame (h1 1 2) h1) fun h4 =>
    some (h4 1 3, h4)
def fX1_item (o0 : Nat) (a1 : Int) (a2 : Int) (a3 : Int) (h : zH) : Int :=
  fX10_at (zfr o0 0) (fX1_cellOf a1 a2 a3) h
def fX1_has (o0 : Nat) (a1 : Int) (a2 : Int) (h : zH) : Int :=
  if zw a2 < 0 then
    0
  else
    if zw (fX1_many o0 a1 h) ≤ zw a2 then
      0
    else
      1
def fX1_isWhole_c185 (N : Nat) (o0 : Nat) (K106 : Int → Int → zH → Option (Int × zH)) (l2 : Int) (l3 : Int) (l4 : Int) (s0 : Int) (s1 : Int) (h : zH) : Option (Int × zH) :=
  if zw l3 = zw 8 then
    if zw l4 = zw 8 then
      zlet (fX10_put (zfr o0 2) l2 (zor 0 0) h) fun h3 =>
      K106 (zand s1 s0) (l2 + 1) h3
    else
      zlet (fX10_put (zfr o0 2) l2 (zor 0 (zshl 1 l4)) h) fun h4 =>
      K106 (zand s1 s0) (l2 + 1) h4
  else
    if zw l4 = zw 8 then
      zlet (fX10_put (zfr o0 2) l2 (zor (zshl 1 l3) 0) h) fun h6 =>
      K106 (zand s1 s0) (l2 + 1) h6
    else
      zlet (fX10_put (zfr o0 2) l2 (zor (zshl 1 l3) (zshl 1 l4)) h) fun h7 =>
      K106 (zand s1 s0) (l2 + 1) h7
def fX1_isWhole_c106b (N : Nat) (o0 : Nat) (K106 : Int → Int → zH → Option (Int × zH)) (l1 : Int) (l2 : Int) (h : zH) : Option (Int × zH) :=
  if zw (fX1_many o0 3 h) ≤ zw l2 then
    if l1 = 0 ∨ l1 = 1 then some (l1, h) else none
  else
    zlet (fX1_item o0 3 l2 1 h) fun v3 =>
    zlet (fX1_item o0 3 l2 2 h) fun v4 =>
    zlet (zand l1 (fX1_has o0 2 (fX1_item o0 3 l2 0 h) h)) fun v5 =>
    if zw v3 = zw 8 then
      if zw v4 = zw 8 then
        fX1_isWhole_c185 N o0 K106 l2 v3 v4 1 v5 h
      else
        if zw (fX1_has o0 3 v4 h) = 0 then
          fX1_isWhole_c185 N o0 K106 l2 v3 v4 0 v5 h
        else
          fX1_isWhole_c185 N o0 K106 l2 v3 v4 1 v5 h
    else
      if zw (fX1_has o0 3 v3 h) = 0 then
        fX1_isWhole_c185 N o0 K106 l2 v3 v4 0 v5 h
      else
        if zw v4 = zw 8 then
          fX1_isWhole_c185 N o0 K106 l2 v3 v4 1 v5 h
        else
          if zw (fX1_has o0 3 v4 h) = 0 then
            fX1_isWhole_c185 N o0 K106 l2 v3 v4 0 v5 h
          else
            fX1_isWhole_c185 N o0 K106 l2 v3 v4 1 v5 h
def fX1_isWhole_c106 (N : Nat) (o0 : Nat) : Nat → Int → Int → zH → Option (Int × zH)
  | 0 => fun _ _ _ => none
  | k + 1 => fX1_isWhole_c106b N o0 (fX1_isWhole_c106 N o0 k)
def fX1_isWhole_c74b (N : Nat) (o0 : Nat) (K74 : Int → Int → zH → Option (Int × zH)) (l1 : Int) (l2 : Int) (h : zH) : Option (Int × zH) :=
  if zw (fX1_many o0 1 h) ≤ zw l2 then
    fX1_isWhole_c106 N o0 N l1 0 h
  else
    zlet (zand l1 (fX1_has o0 3 (fX1_item o0 1 l2 0 h) h)) fun v2 =>
    K74 v2 (l2 + 1) h
def fX1_isWhole_c74 (N : Nat) (o0 : Nat) : Nat → Int → Int → zH → Option (Int × zH)
  | 0 => fun _ _ _ => none
  | k + 1 => fX1_isWhole_c74b N o0 (fX1_isWhole_c74 N o0 k)
def fX1_isWhole_c32b (N : Nat) (o0 : Nat) (K32 : Int → Int → zH → Option (Int × zH)) (l1 : Int) (l2 : Int) (h : zH) : Option (Int × zH) :=
  if zw (fX1_many o0 2 h) ≤ zw l2 then
    fX1_isWhole_c74 N o0 N l1 0 h
  else
    if zw (fX1_item o0 2 l2 1 h) ≤ zw (fX1_item o0 2 l2 0 h) then
      K32 (zand l1 0) (l2 + 1) h
    else
      K32 (zand l1 1) (l2 + 1) h
def fX1_isWhole_c32 (N : Nat) (o0 : Nat) : Nat → Int → Int → zH → Option (Int × zH)
  | 0 => fun _ _ _ => none
  | k + 1 => fX1_isWhole_c32b N o0 (fX1_isWhole_c32 N o0 k)
def fX1_isWhole (N : Nat) (o0 : Nat) (h : zH) : Option (Int × zH) :=
  if zw (fX1_many o0 1 h) ≤ 0 then
    fX1_isWhole_c32 N o0 N 0 0 h
  else
    if zw (fX1_many o0 2 h) ≤ 0 then
      fX1_isWhole_c32 N o0 N 0 0 h
    else
      if zw (fX1_many o0 3 h) ≤ 0 then
        fX1_isWhole_c32 N o0 N 0 0 h
      else
        fX1_isWhole_c32 N o0 N 1 0 h
def fX1_read_c25b (N : Nat) (o0 : Nat) (K25 : Int → zH → Option (Int × zH)) (l2 : Int) (h : zH) : Option (Int × zH) :=
  if zw 240 ≤ zw l2 then
    z2 (fX9_close N h) fun v3 h2 =>
    if zw v3 = zw (-1) then
      z2 (fX1_isWhole N o0 h2) fun v6 h5 =>
      if zw v6 = 0 then
        zlet (fX9_blame (h5 1 1) h5) fun h8 =>
        some (h8 1 3, h8)
      else
        some (h5 1 3, h5)
    else
      some (h2 1 3, h2)
  else
    z2 (fX9_take N 59 h) fun v10 h9 =>
    if zw v10 = 0 then
      z2 (fX9_close N h9) fun v13 h12 =>
      if zw v13 = zw (-1) then
        z2 (fX1_isWhole N o0 h12) fun v16 h15 =>
        if zw v16 = 0 then
          zlet (fX9_blame (h15 1 1) h15) fun h18 =>
          some (h18 1 3, h18)
        else
          some (h15 1 3, h15)
      else
        some (h12 1 3, h12)
    else
      zb (fX1_readClause N o0 h9) fun h19 =>
      K25 (l2 + 1) h19
def fX1_read_c25 (N : Nat) (o0 : Nat) : Nat → Int → zH → Option (Int × zH)
  | 0 => fun _ _ => none
  | k + 1 => fX1_read_c25b N o0 (fX1_read_c25 N o0 k)
def fX1_read (N : Nat) (o0 : Nat) (h : zH) : Option (Int × zH) :=
  zlet (fX9_rewind h) fun h1 =>
  zb (fJ7_fill_53178 N (zfr o0 1) 0 h1) fun h2 =>
  zb (fX1_useUntold N o0 0 0 h2) fun h3 =>
  zb (fX1_readClause N o0 h3) fun h4 =>
  fX1_read_c25 N o0 N 1 h4
def fJ9_min_7cf53 (a0 : Int) (a1 : Int) : Int :=
  if zw a1 < zw a0 then
    a1
  else
    a0
def fX4_emit (a1 : Int) (h : zH) : zH :=
  zlet (fX10_put 22 (h 4 1) a1 h) fun h1 =>
  zlet (zs h1 4 1 (fJ9_min_7cf53 ((h1 4 1) + 1) 240)) fun h2 =>
  h2
def fX4_push (a1 : Int) (h : zH) : zH :=
  zlet (fX10_put 23 (h 4 3) a1 h) fun h1 =>
  zlet (zs h1 4 3 (fJ9_min_7cf53 ((h1 4 3) + 1) 48)) fun h2 =>
  h2
def fX4_open (a1 : Int) (h : zH) : zH :=
  zlet (fX4_push a1 h) fun h1 =>
  zlet (zs h1 4 4 ((h1 4 4) + 1)) fun h2 =>
  if zw a1 = zw 91 then
    zlet (zs h2 4 6 ((h2 4 6) + 1)) fun h4 =>
    zlet (zs h4 4 8 0) fun h5 =>
    if zw a1 = zw 40 then
      zlet (zs h5 4 5 ((h5 4 5) + 1)) fun h7 =>
      h7
    else
      h5
  else
    zlet (zs h2 4 11 1) fun h8 =>
    if zw a1 = zw 40 then
      zlet (zs h8 4 5 ((h8 4 5) + 1)) fun h10 =>
      h10
    else
      h8
def fX4_readOperand_c127 (N : Nat) (h : zH) : Option (Int × zH) :=
  if zw (h 1 3) = zw (-1) then
    some (1, h)
  else
    some (0, h)
def fX4_readOperand (N : Nat) (h : zH) : Option (Int × zH) :=
  z2 (fX9_next N h) fun v2 h1 =>
  zb (fX10_placeIn N 2 v2) fun v3 =>
  if zw (fX9_isDigit v2) = 0 then
    if zw v3 < 0 then
      if zw 6 ≤ zw (h1 4 4) then
        zlet (fX9_blame (h1 1 2) h1) fun h7 =>
        fX4_readOperand_c127 N h7
      else
        if zw v2 = zw 91 then
          zlet (zs h1 1 2 ((h1 1 2) + 1)) fun h9 =>
          zlet (fX4_open v2 h9) fun h10 =>
          fX4_readOperand_c127 N h10
        else
          if zw (h1 4 8) = 0 then
            zlet (fX9_blame (h1 1 2) h1) fun h12 =>
            fX4_readOperand_c127 N h12
          else
            if zw v2 = zw 40 then
              zlet (zs h1 1 2 ((h1 1 2) + 1)) fun h14 =>
              zlet (fX4_open v2 h14) fun h15 =>
              fX4_readOperand_c127 N h15
            else
              if zw v2 = zw 33 then
                zlet (zs h1 1 2 ((h1 1 2) + 1)) fun h17 =>
                zlet (fX4_open v2 h17) fun h18 =>
                fX4_readOperand_c127 N h18
              else
                zlet (fX9_blame (h1 1 2) h1) fun h19 =>
                fX4_readOperand_c127 N h19
    else
      zlet (zs h1 1 2 ((h1 1 2) + 1)) fun h20 =>
      zlet (fX4_emit (10000 + v3) h20) fun h21 =>
      zlet (zs h21 4 7 0) fun h22 =>
      fX4_readOperand_c127 N h22
  else
    z2 (fX9_number N 4 h1) fun v24 h23 =>
    zlet (fX4_emit v24 h23) fun h25 =>
    zlet (zs h25 4 7 0) fun h26 =>
    fX4_readOperand_c127 N h26
def fX4_fits (a1 : Int) (h : zH) : Int :=
  if zw a1 = (-1) then
    if zw (h 4 6) = 0 then
      if zw (h 4 12) = 0 then
        if zw (h 4 11) = 0 then
          1
        else
          0
      else
        1
    else
      0
  else
    if zw a1 = 38 then
      if zw (h 4 6) = 0 then
        if zw (h 4 9) = 0 then
          0
        else
          1
      else
        0
    else
      if zw a1 = 41 then
        if zw (h 4 6) = 0 then
          if zw (h 4 9) = 0 then
            0
          else
            if zw (h 4 5) ≤ 0 then
              0
            else
              1
        else
          0
      else
        if zw a1 = 42 then
          if zw (h 4 10) = 0 then
            1
          else
            0
        else
          if zw a1 = 43 then
            if zw (h 4 10) = 0 then
              1
            else
              0
          else
            if zw a1 = 45 then
              if zw (h 4 10) = 0 then
                1
              else
                0
            else
              if zw a1 = 47 then
                if zw (h 4 10) = 0 then
                  1
                else
                  0
              else
                if zw a1 = 59 then
                  if zw (h 4 6) = 0 then
                    if zw (h 4 12) = 0 then
                      if zw (h 4 11) = 0 then
                        1
                      else
                        0
                    else
                      1
                  else
                    0
                else
                  if zw a1 = 60 then
                    if zw (h 4 6) = 0 then
                      if zw (h 4 12) = 0 then
                        if zw (h 4 9) = 0 then
                          1
                        else
                          0
                      else
                        0
                    else
                      0
                  else
                    if zw a1 = 61 then
                      if zw (h 4 6) = 0 then
                        if zw (h 4 12) = 0 then
                          if zw (h 4 9) = 0 then
                            1
                          else
                            0
                        else
                          0
                      else
                        0
                    else
                      if zw a1 = 62 then
                        if zw (h 4 6) = 0 then
                          if zw (h 4 12) = 0 then
                            if zw (h 4 9) = 0 then
                              1
                            else
                              0
                          else
                            0
                        else
                          0
                      else
                        if zw a1 = 63 then
                          if zw (h 4 6) = 0 then
                            if zw (h 4 9) = 0 then
                              0
                            else
                              if zw (h 4 5) = 0 then
                                1
                              else
                                0
                          else
                            0
                        else
                          if zw a1 = 93 then
                            if zw (h 4 6) ≤ 0 then
                              0
                            else
                              1
                          else
                            if zw a1 = 124 then
                              if zw (h 4 6) = 0 then
                                if zw (h 4 9) = 0 then
                                  0
                                else
                                  1
                              else
                                0
                            else
                              0
def fX4_rank (a0 : Int) : Int :=
  if zw a0 = 33 then
    3
  else
    if zw a0 = 38 then
      2
    else
      if zw a0 = 42 then
        6
      else
        if zw a0 = 43 then
          5
        else
          if zw a0 = 45 then
            5
          else
            if zw a0 = 47 then
              6
            else
              if zw a0 = 60 then
                4
              else
                if zw a0 = 61 then
                  4
                else
                  if zw a0 = 62 then
                    4
                  else
                    if zw a0 = 124 then
                      1
                    else
                      0
def fX4_reduce_c7b (N : Nat) (K7 : Int → Int → zH → Option zH) (l1 : Int) (l2 : Int) (h : zH) : Option zH :=
  if zw l2 < 0 then
    some h
  else
    if zw (fX4_rank (fX10_at 23 l2 h)) < zw l1 then
      some h
    else
      zlet (fX10_at 23 l2 h) fun v3 =>
      zlet (fX4_emit (-v3) h) fun h4 =>
      if zw v3 = zw 33 then
        zlet (zs h4 4 4 ((h4 4 4) - 1)) fun h6 =>
        zlet (zs h6 4 3 l2) fun h7 =>
        K7 l1 (l2 + (-1)) h7
      else
        zlet (zs h4 4 4 ((h4 4 4) - 0)) fun h8 =>
        zlet (zs h8 4 3 l2) fun h9 =>
        K7 l1 (l2 + (-1)) h9
def fX4_reduce_c7 (N : Nat) : Nat → Int → Int → zH → Option zH
  | 0 => fun _ _ _ => none
  | k + 1 => fX4_reduce_c7b N (fX4_reduce_c7 N k)
def fX4_reduce (N : Nat) (a1 : Int) (h : zH) : Option zH :=
  zlet ((h 4 3) - 1) fun v1 =>
  fX4_reduce_c7 N N a1 v1 h
def fX4_shut (a1 : Int) (h : zH) : zH :=
  zlet (zs h 4 3 (fJ9_max_7cf53 ((h 4 3) - 1) 0)) fun h1 =>
  zlet (zs h1 4 4 ((h1 4 4) - 1)) fun h2 =>
  if zw a1 = zw 93 then
    zlet (zs h2 4 6 ((h2 4 6) - 1)) fun h4 =>
    h4
  else
    zlet (zs h2 4 5 ((h2 4 5) - 1)) fun h5 =>
    zlet (zs h5 4 10 1) fun h6 =>
    h6
def fX4_join_c104 (l1 : Int) (l3 : Int) (s0 : Int) (h : zH) : Option zH :=
  if s0 = 0 ∨ s0 = 1 then zlet (zs h 4 9 s0) fun h2 =>
  if zw l3 = 0 then
    if (zand (h2 4 10) 1) = 0 ∨ (zand (h2 4 10) 1) = 1 then zlet (zs h2 4 10 (zand (h2 4 10) 1)) fun h5 =>
    zlet (zs h5 4 7 1) fun h6 =>
    if zw l1 = zw 38 then
      zlet (zs h6 4 8 1) fun h8 =>
      some h8
    else
      if zw l1 = zw 124 then
        zlet (zs h6 4 8 1) fun h10 =>
        some h10
      else
        zlet (zs h6 4 8 0) fun h11 =>
        some h11 else none
  else
    if (zand (h2 4 10) 0) = 0 ∨ (zand (h2 4 10) 0) = 1 then zlet (zs h2 4 10 (zand (h2 4 10) 0)) fun h13 =>
    zlet (zs h13 4 7 1) fun h14 =>
    if zw l1 = zw 38 then
      zlet (zs h14 4 8 1) fun h16 =>
      some h16
    else
      if zw l1 = zw 124 then
        zlet (zs h14 4 8 1) fun h18 =>
        some h18
      else
        zlet (zs h14 4 8 0) fun h19 =>
        some h19 else none else none
def fX4_join_c47 (l1 : Int) (l2 : Int) (s0 : Int) (h : zH) : Option zH :=
  if zw l1 = zw 63 then
    zlet (fX4_emit (-l1) h) fun h2 =>
    zlet (zs h2 4 12 1) fun h3 =>
    if (zor (h3 4 11) l2) = 0 ∨ (zor (h3 4 11) l2) = 1 then zlet (zs h3 4 11 (zor (h3 4 11) l2)) fun h5 =>
    if zw l2 = 0 then
      if zw (h5 4 9) = 0 then
        fX4_join_c104 l1 s0 0 h5
      else
        if zw s0 = 0 then
          fX4_join_c104 l1 s0 1 h5
        else
          fX4_join_c104 l1 s0 0 h5
    else
      fX4_join_c104 l1 s0 1 h5 else none
  else
    zlet (fX4_push l1 h) fun h9 =>
    if (zor (h9 4 11) l2) = 0 ∨ (zor (h9 4 11) l2) = 1 then zlet (zs h9 4 11 (zor (h9 4 11) l2)) fun h11 =>
    if zw l2 = 0 then
      if zw (h11 4 9) = 0 then
        fX4_join_c104 l1 s0 0 h11
      else
        if zw s0 = 0 then
          fX4_join_c104 l1 s0 1 h11
        else
          fX4_join_c104 l1 s0 0 h11
    else
      fX4_join_c104 l1 s0 1 h11 else none
def fX4_join_c18 (l1 : Int) (h : zH) : Option zH :=
  if zw l1 = zw 38 then
    fX4_join_c47 l1 1 1 h
  else
    if zw l1 = zw 124 then
      fX4_join_c47 l1 1 1 h
    else
      if zw l1 = zw 63 then
        fX4_join_c47 l1 1 1 h
      else
        fX4_join_c47 l1 1 0 h
def fX4_join (a1 : Int) (h : zH) : Option zH :=
  if zw a1 = zw 61 then
    fX4_join_c18 a1 h
  else
    if zw a1 = zw 60 then
      fX4_join_c18 a1 h
    else
      if zw a1 = zw 62 then
        fX4_join_c18 a1 h
      else
        if zw a1 = zw 38 then
          fX4_join_c47 a1 0 1 h
        else
          if zw a1 = zw 124 then
            fX4_join_c47 a1 0 1 h
          else
            if zw a1 = zw 63 then
              fX4_join_c47 a1 0 1 h
            else
              fX4_join_c47 a1 0 0 h
def fX4_readJoint (N : Nat) (h : zH) : Option (Int × zH) :=
  z2 (fX9_next N h) fun v2 h1 =>
  if zw (h1 1 3) = zw (-1) then
    if zw (fX4_fits v2 h1) = 0 then
      zlet (fX9_blame (h1 1 2) h1) fun h5 =>
      some (0, h5)
    else
      zb (fX4_reduce N (fJ9_max_7cf53 (fX4_rank v2) 1) h1) fun h6 =>
      if zw v2 = zw 59 then
        zlet (fX4_emit (-59) h6) fun h8 =>
        some (0, h8)
      else
        if zw v2 = zw (-1) then
          zlet (fX4_emit (-59) h6) fun h10 =>
          some (0, h10)
        else
          zlet (zs h6 1 2 ((h6 1 2) + 1)) fun h11 =>
          if zw v2 = zw 41 then
            zlet (fX4_shut v2 h11) fun h13 =>
            some (1, h13)
          else
            if zw v2 = zw 93 then
              zlet (fX4_shut v2 h11) fun h15 =>
              some (1, h15)
            else
              zb (fX4_join v2 h11) fun h16 =>
              some (1, h16)
  else
    zlet (fX9_blame (h1 1 2) h1) fun h17 =>
    some (0, h17)
def fX4_readClause_c92b (N : Nat) (K92 : Int → Int → zH → Option zH) (l2 : Int) (l3 : Int) (h : zH) : Option zH :=
  if zw 240 ≤ zw l3 then
    some h
  else
    if zw l2 = 0 then
      some h
    else
      if zw (h 4 7) = 0 then
        z2 (fX4_readJoint N h) fun v5 h4 =>
        K92 v5 (l3 + 1) h4
      else
        z2 (fX4_readOperand N h) fun v7 h6 =>
        K92 v7 (l3 + 1) h6
def fX4_readClause_c92 (N : Nat) : Nat → Int → Int → zH → Option zH
  | 0 => fun _ _ _ => none
  | k + 1 => fX4_readClause_c92b N (fX4_readClause_c92 N k)
def fX4_readClause (N : Nat) (h : zH) : Option zH :=
  zlet (zs h 4 3 0) fun h1 =>
  zlet (zs h1 4 4 0) fun h2 =>
  zlet (zs h2 4 5 0) fun h3 =>
  zlet (zs h3 4 6 0) fun h4 =>
  zlet (zs h4 4 7 1) fun h5 =>
  zlet (zs h5 4 8 1) fun h6 =>
  zlet (zs h6 4 9 0) fun h7 =>
  zlet (zs h7 4 10 0) fun h8 =>
  zlet (zs h8 4 11 0) fun h9 =>
  zlet (zs h9 4 12 0) fun h10 =>
  z2 (fX9_take N 121 h10) fun v12 h11 =>
  if zw v12 = 0 then
    zlet (fX9_blame (h11 1 2) h11) fun h14 =>
    if zw (h14 1 3) = zw (-1) then
      fX4_readClause_c92 N N 1 0 h14
    else
      fX4_readClause_c92 N N 0 0 h14
  else
    z2 (fX9_take N 58 h11) fun v17 h16 =>
    if zw v17 = 0 then
      zlet (fX9_blame (h16 1 2) h16) fun h19 =>
      if zw (h19 1 3) = zw (-1) then
        fX4_readClause_c92 N N 1 0 h19
      else
        fX4_readClause_c92 N N 0 0 h19
    else
      if zw (h16 1 3) = zw (-1) then
        fX4_readClause_c92 N N 1 0 h16
      else
        fX4_readClause_c92 N N 0 0 h16
def fX4_read_c16b (N : Nat) (K16 : Int → zH → Option (Int × zH)) (l2 : Int) (h : zH) : Option (Int × zH) :=
  if zw 240 ≤ zw l2 then
    z2 (fX9_close N h) fun v3 h2 =>
    some (v3, h2)
  else
    z2 (fX9_take N 59 h) fun v5 h4 =>
    if zw v5 = 0 then
      z2 (fX9_close N h4) fun v8 h7 =>
      some (v8, h7)
    else
      zb (fX4_readClause N h4) fun h9 =>
      K16 (l2 + 1) h9
def fX4_read_c16 (N : Nat) : Nat → Int → zH → Option (Int × zH)
  | 0 => fun _ _ => none
  | k + 1 => fX4_read_c16b N (fX4_read_c16 N k)
def fX4_read (N : Nat) (h : zH) : Option (Int × zH) :=
  zlet (fX9_rewind h) fun h1 =>
  zlet (zs h1 4 1 0) fun h2 =>
  zb (fX4_readClause N h2) fun h3 =>
  fX4_read_c16 N N 1 h3
def fX2_readDigit (N : Nat) (h : zH) : Option (Int × zH) :=
  z2 (fX9_next N h) fun v2 h1 =>
  if zw (fX9_isDigit v2) = 0 then
    zlet (fX9_blame (h1 1 2) h1) fun h4 =>
    some ((-1), h4)
  else
    zlet (zs h1 1 2 ((h1 1 2) + 1)) fun h5 =>
    some (v2 - 48, h5)
def fX2_readStep_c72 (N : Nat) (l2 : Int) (s0 : Int) (s1 : Int) (h : zH) : Option zH :=
  zlet (fX10_put 29 s1 s0 h) fun h1 =>
  if zw l2 = 0 then
    z2 (fX2_readDigit N h1) fun v4 h3 =>
    zlet (fX10_put 29 (((h1 6 4) * 3) + 2) v4 h3) fun h5 =>
    zlet (zs h5 6 4 ((h5 6 4) + 1)) fun h6 =>
    some h6
  else
    zlet (fX10_put 29 (((h1 6 4) * 3) + 2) (-1) h1) fun h7 =>
    zlet (zs h7 6 4 ((h7 6 4) + 1)) fun h8 =>
    some h8
def fX2_readStep (N : Nat) (h : zH) : Option zH :=
  z2 (fX9_next N h) fun v2 h1 =>
  zb (fX10_placeIn N 3 v2) fun v3 =>
  if 0 ≤ zw v3 then
    zlet (zs h1 1 2 ((h1 1 2) + 1)) fun h5 =>
    zlet (fX10_put 29 ((h5 6 4) * 3) v3 h5) fun h6 =>
    if zw v3 = zw 2 then
      fX2_readStep_c72 N v3 (-1) (((h6 6 4) * 3) + 1) h6
    else
      z2 (fX2_readDigit N h6) fun v9 h8 =>
      fX2_readStep_c72 N v3 v9 (((h6 6 4) * 3) + 1) h8
  else
    zlet (fX9_blame (h1 1 2) h1) fun h10 =>
    some h10
def fX2_read_c16b (N : Nat) (K16 : Int → zH → Option (Int × zH)) (l2 : Int) (h : zH) : Option (Int × zH) :=
  if zw 16 ≤ zw l2 then
    z2 (fX9_close N h) fun v3 h2 =>
    some (v3, h2)
  else
    z2 (fX9_take N 59 h) fun v5 h4 =>
    if zw v5 = 0 then
      z2 (fX9_close N h4) fun v8 h7 =>
      some (v8, h7)
    else
      zb (fX2_readStep N h4) fun h9 =>
      K16 (l2 + 1) h9
def fX2_read_c16 (N : Nat) : Nat → Int → zH → Option (Int × zH)
  | 0 => fun _ _ => none
  | k + 1 => fX2_read_c16b N (fX2_read_c16 N k)
def fX2_read (N : Nat) (h : zH) : Option (Int × zH) :=
  zlet (fX9_rewind h) fun h1 =>
  zlet (zs h1 6 4 0) fun h2 =>
  zb (fX2_readStep N h2) fun h3 =>
  fX2_read_c16 N N 1 h3
def fX10_fault (N : Nat) (a1 : Int) (h : zH) : Option (Int × zH) :=
  if zw a1 = 0 then
    z2 (fX1_read N 3 h) fun v3 h2 =>
    some (v3, h2)
  else
    if zw a1 = zw 1 then
      z2 (fX4_read N h) fun v6 h5 =>
      some (v6, h5)
    else
      if zw a1 = zw 2 then
        z2 (fX2_read N h) fun v9 h8 =>
        some (v9, h8)
      else
        some ((-2), h)
def fX5_add_c12b (N : Nat) (K12 : Int → zH → Option (Int × zH)) (l2 : Int) (h : zH) : Option (Int × zH) :=
  if zw (h 4 1) ≤ zw l2 then
    zlet (fX10_put 25 (h 5 0) (h 4 1) h) fun h2 =>
    zlet (zs h2 5 0 ((h2 5 0) + 1)) fun h3 =>
    some ((h3 5 0) - 1, h3)
  else
    zlet (fX10_put 24 (((h 5 0) * 240) + l2) (fX10_at 22 l2 h) h) fun h4 =>
    K12 (l2 + 1) h4
def fX5_add_c12 (N : Nat) : Nat → Int → zH → Option (Int × zH)
  | 0 => fun _ _ => none
  | k + 1 => fX5_add_c12b N (fX5_add_c12 N k)
def fX5_add (N : Nat) (h : zH) : Option (Int × zH) :=
  if zw (h 5 0) < zw 4 then
    fX5_add_c12 N N 0 h
  else
    some ((-1), h)
def fX2_add_c12b (N : Nat) (K12 : Int → zH → Option (Int × zH)) (l1 : Int) (h : zH) : Option (Int × zH) :=
  if zw ((h 6 4) * 3) ≤ zw l1 then
    zlet (fX10_put 28 (h 6 0) (h 6 4) h) fun h2 =>
    zlet (zs h2 6 0 ((h2 6 0) + 1)) fun h3 =>
    some ((h3 6 0) - 1, h3)
  else
    zlet (fX10_put 27 (((h 6 0) * 48) + l1) (fX10_at 29 l1 h) h) fun h4 =>
    K12 (l1 + 1) h4
def fX2_add_c12 (N : Nat) : Nat → Int → zH → Option (Int × zH)
  | 0 => fun _ _ => none
  | k + 1 => fX2_add_c12b N (fX2_add_c12 N k)
def fX2_add (N : Nat) (h : zH) : Option (Int × zH) :=
  if zw (h 6 0) < zw 4 then
    fX2_add_c12 N N 0 h
  else
    some ((-1), h)
def fX1_take (o0 : Nat) (o1 : Nat) (h : zH) : Option zH :=
  if 0 ≤ zw 0 ∧ 0 ≤ zw 0 ∧ 0 ≤ zw 128 ∧ zw 0 + zw 128 ≤ 128 ∧ zw 0 + zw 128 ≤ 128 then
  zlet (zcopy h (zfr o1 0) (zw 0).toNat (zfr o0 0) (zw 0).toNat (zw 128).toNat) fun h1 =>
  if 0 ≤ zw 0 ∧ 0 ≤ zw 0 ∧ 0 ≤ zw 4 ∧ zw 0 + zw 4 ≤ 4 ∧ zw 0 + zw 4 ≤ 4 then
  zlet (zcopy h1 (zfr o1 1) (zw 0).toNat (zfr o0 1) (zw 0).toNat (zw 4).toNat) fun h3 =>
  if 0 ≤ zw 0 ∧ 0 ≤ zw 0 ∧ 0 ≤ zw 8 ∧ zw 0 + zw 8 ≤ 8 ∧ zw 0 + zw 8 ≤ 8 then
  zlet (zcopy h3 (zfr o1 2) (zw 0).toNat (zfr o0 2) (zw 0).toNat (zw 8).toNat) fun h5 =>
  some h5 else none else none else none
def fX8_set (o0 : Nat) (a1 : Int) (a2 : Int) (a3 : Int) (h : zH) : zH :=
  zlet (fX10_put (zfr o0 0) ((a1 * 6) + a2) a3 h) fun h1 =>
  h1
def fX8_clear_c10b (N : Nat) (o0 : Nat) (K10 : Int → zH → Option zH) (l1 : Int) (h : zH) : Option zH :=
  if zw 6 ≤ zw l1 then
    some h
  else
    zlet (fX8_set o0 1 l1 (-1) h) fun h2 =>
    zlet (fX8_set o0 6 l1 (-1) h2) fun h3 =>
    K10 (l1 + 1) h3
def fX8_clear_c10 (N : Nat) (o0 : Nat) : Nat → Int → zH → Option zH
  | 0 => fun _ _ => none
  | k + 1 => fX8_clear_c10b N o0 (fX8_clear_c10 N o0 k)
def fX8_clear (N : Nat) (o0 : Nat) (h : zH) : Option zH :=
  zb (fJ7_fill_53178 N (zfr o0 0) 0 h) fun h1 =>
  fX8_clear_c10 N o0 N 0 h1
def fX0_forget (h : zH) : zH :=
  zlet (zs h 10 0 0) fun h1 =>
  h1
def fX3_forget (N : Nat) (h : zH) : Option zH :=
  zb (fJ7_fill_53178 N 43 0 h) fun h1 =>
  some h1
def fX6_forget (h : zH) : zH :=
  zlet (zs h 12 5 0) fun h1 =>
  h1
def fX7_forget (h : zH) : zH :=
  zlet (zs h 13 0 0) fun h1 =>
  h1
def fX10_beginHill (N : Nat) (h : zH) : Option zH :=
  zb (fX1_take 2 3 h) fun h1 =>
  zb (fX8_clear N 7 h1) fun h2 =>
  zlet (fX0_forget h2) fun h3 =>
  zb (fX3_forget N h3) fun h4 =>
  zlet (fX6_forget h4) fun h5 =>
  zlet (fX7_forget h5) fun h6 =>
  zlet (zs h6 0 13 0) fun h7 =>
  some h7
def fX10_text_c37 (N : Nat) (l1 : Int) (s0 : Int) (h : zH) : Option (Int × zH) :=
  if zw s0 = 0 then
    z2 (fX10_fault N l1 h) fun v3 h2 =>
    if zw v3 = zw (-1) then
      zlet (zs h2 1 1 0) fun h5 =>
      if zw l1 = zw 1 then
        z2 (fX5_add N h5) fun v8 h7 =>
        some (v8, h7)
      else
        if zw l1 = zw 2 then
          z2 (fX2_add N h5) fun v11 h10 =>
          some (v11, h10)
        else
          zb (fX10_beginHill N h5) fun h12 =>
          some (fX1_many 2 1 h12, h12)
    else
      some ((-1), h2)
  else
    some ((-1), h)
def fX10_text (N : Nat) (a1 : Int) (h : zH) : Option (Int × zH) :=
  if zw a1 = zw 1 then
    if zw (h 5 0) = zw 4 then
      fX10_text_c37 N a1 1 h
    else
      if zw a1 = zw 2 then
        if zw (h 6 0) = zw 4 then
          fX10_text_c37 N a1 1 h
        else
          fX10_text_c37 N a1 0 h
      else
        fX10_text_c37 N a1 0 h
  else
    if zw a1 = zw 2 then
      if zw (h 6 0) = zw 4 then
        fX10_text_c37 N a1 1 h
      else
        fX10_text_c37 N a1 0 h
    else
      fX10_text_c37 N a1 0 h
def fX10_hasHill (h : zH) : Int :=
  if zw (fX1_many 2 1 h) ≤ 0 then
    0
  else
    1
def fX10_sun (a1 : Int) (h : zH) : Int :=
  if zw (fX10_hasHill h) = 0 then
    (-1)
  else
    if zw a1 < 0 then
      (-1)
    else
      if zw a1 ≤ zw 1 then
        fX1_item 2 0 0 a1 h
      else
        (-1)
def fX8_of (o0 : Nat) (a1 : Int) (a2 : Int) (h : zH) : Int :=
  fX10_at (zfr o0 0) ((a1 * 6) + a2) h
def fX8_backlog_c4b (N : Nat) (o0 : Nat) (h : zH) (K4 : Int → Int → Int → Option Int) (l1 : Int) (l2 : Int) (l3 : Int) : Option Int :=
  if zw (h (zfr o0 0) 49) ≤ zw l3 then
    some l2
  else
    if zw (fX8_of o0 6 (fX8_of o0 7 l3 h) h) = zw l1 then
      K4 l1 (l2 + 1) (l3 + 1)
    else
      K4 l1 (l2 + 0) (l3 + 1)
def fX8_backlog_c4 (N : Nat) (o0 : Nat) (h : zH) : Nat → Int → Int → Int → Option Int
  | 0 => fun _ _ _ => none
  | k + 1 => fX8_backlog_c4b N o0 h (fX8_backlog_c4 N o0 h k)
def fX8_backlog (N : Nat) (o0 : Nat) (a1 : Int) (h : zH) : Option Int :=
  fX8_backlog_c4 N o0 h N a1 0 0
def fX8_first_c2b (N : Nat) (o0 : Nat) (h : zH) (K2 : Int → Int → Option Int) (l1 : Int) (l2 : Int) : Option Int :=
  if zw (h (zfr o0 0) 49) ≤ zw l2 then
    some (-1)
  else
    zlet (fX8_of o0 7 l2 h) fun v2 =>
    if zw (fX8_of o0 6 v2 h) = zw l1 then
      some v2
    else
      K2 l1 (l2 + 1)
def fX8_first_c2 (N : Nat) (o0 : Nat) (h : zH) : Nat → Int → Int → Option Int
  | 0 => fun _ _ => none
  | k + 1 => fX8_first_c2b N o0 h (fX8_first_c2 N o0 h k)
def fX8_first (N : Nat) (o0 : Nat) (a1 : Int) (h : zH) : Option Int :=
  fX8_first_c2 N o0 h N a1 0
def fX8_time (o0 : Nat) (h : zH) : Int :=
  zrem (h (zfr o0 0) 48) 24
def fX1_isOpen (o0 : Nat) (a1 : Int) (a2 : Int) (h : zH) : Int :=
  if zw a2 < zw (fX1_item o0 2 a1 0 h) then
    0
  else
    if zw (fX1_item o0 2 a1 1 h) ≤ zw a2 then
      0
    else
      1
def fX10_desk (N : Nat) (a1 : Int) (a2 : Int) (h : zH) : Option Int :=
  if zw (fX1_has 2 2 a1 h) = 0 then
    some (-1)
  else
    if 0 ≤ zw a2 then
      if zw a2 = 4 then
        zb (fX8_backlog N 7 a1 h) fun v4 =>
        some v4
      else
        if zw a2 = 5 then
          zb (fX8_first N 7 a1 h) fun v6 =>
          some v6
        else
          if zw a2 = 6 then
            if zw (fX1_isOpen 2 a1 (fX8_time 7 h) h) = 0 then
              some 0
            else
              some 1
          else
            if zw 3 < zw a2 then
              some (-1)
            else
              some (fX1_item 2 2 a1 a2 h)
    else
      some (-1)
def fX10_paper (a1 : Int) (a2 : Int) (h : zH) : Int :=
  if zw (fX1_has 2 3 a1 h) = 0 then
    (-1)
  else
    if zw a2 < 0 then
      (-1)
    else
      if zw a2 ≤ zw 2 then
        zlet (fX1_item 2 3 a1 a2 h) fun v4 =>
        if zw a2 = 0 then
          v4
        else
          if zw v4 = zw 8 then
            (-1)
          else
            v4
      else
        (-1)
def fX10_rule (a1 : Int) (h : zH) : (Int × zH) :=
  if zw a1 < zw (-1) then
    (0, h)
  else
    if zw a1 < zw (h 5 0) then
      zlet (zs h 5 1 a1) fun h3 =>
      (1, h3)
    else
      (0, h)
def fX10_eclipse (a1 : Int) (h : zH) : (Int × zH) :=
  if zw a1 < 0 then
    (0, h)
  else
    if zw 99 < zw a1 then
      (0, h)
    else
      if zw a1 = zw (h 0 14) then
        (0, h)
      else
        zlet (zs h 0 14 a1) fun h4 =>
        (1, h4)
def fX8_hour (o0 : Nat) (h : zH) : Int :=
  h (zfr o0 0) 48
def fX1_wants (o0 : Nat) (a1 : Int) (h : zH) : Int :=
  fX10_at (zfr o0 2) a1 h
def fX8_allows (o0 : Nat) (o1 : Nat) (a2 : Int) (a3 : Int) (a4 : Int) (h : zH) : Int :=
  if zw a2 = zw 2 then
    if zw 9999 ≤ zw (fX8_hour o0 h) then
      0
    else
      1
  else
    if zw (fX1_has o1 1 a3 h) = 0 then
      0
    else
      if zw a2 = zw 1 then
        if zw (fX8_of o0 1 a3 h) = zw (-1) then
          0
        else
          1
      else
        zlet (fX8_of o0 0 a3 h) fun v6 =>
        if zw (fX1_has o1 3 a4 h) = 0 then
          0
        else
          if zw (fX8_of o0 1 a3 h) = zw (-1) then
            if zw (fX10_isIn v6 a4) = 0 then
              if zw (zand (fX1_wants o1 a4 h) (zxor v6 (-1))) = 0 then
                1
              else
                0
            else
              0
          else
            0
def fJ9_floorMod_7cf53 (a0 : Int) (a1 : Int) : Option Int :=
  if ¬ zw a1 = 0 then if 0 ≤ zw (zxor a0 a1) then
    some (zrem a0 a1)
  else
    if zw (zrem a0 a1) = 0 then
      some (zrem a0 a1)
    else
      some ((zrem a0 a1) + a1) else none
def fX0_keep (o1 : Nat) (h : zH) : Option zH :=
  zlet (zs h 10 2 ((h 10 2) + 1)) fun h1 =>
  zb (fJ9_floorMod_7cf53 (h1 10 2) 40) fun v2 =>
  if 0 ≤ zw 0 ∧ 0 ≤ zw (v2 * 51) ∧ 0 ≤ zw 51 ∧ zw 0 + zw 51 ≤ 51 ∧ zw (v2 * 51) + zw 51 ≤ 2040 then
  zlet (zcopy h1 (zfr o1 0) (zw 0).toNat 42 (zw (v2 * 51)).toNat (zw 51).toNat) fun h3 =>
  zlet (zs h3 10 0 (fJ9_min_7cf53 ((h3 10 0) + 1) 40)) fun h5 =>
  some h5 else none
def fX8_enqueue (o0 : Nat) (o1 : Nat) (a2 : Int) (a3 : Int) (h : zH) : zH :=
  zlet (fX8_set o0 1 a2 a3 h) fun h1 =>
  zlet (fX8_set o0 6 a2 (fX1_item o1 3 a3 0 h1) h1) fun h2 =>
  zlet (fX8_set o0 7 (h2 (zfr o0 0) 49) a2 h2) fun h3 =>
  zlet (zs h3 (zfr o0 0) 49 (fJ9_min_7cf53 ((h3 (zfr o0 0) 49) + 1) 6)) fun h4 =>
  h4
def fX10_file (N : Nat) (a1 : Int) (a2 : Int) (h : zH) : Option (Int × zH) :=
  if zw (fX8_allows 7 2 0 a1 a2 h) = 0 then
    some ((-1), h)
  else
    zb (fX0_keep 7 h) fun h2 =>
    zlet (fX8_enqueue 7 2 a1 a2 h2) fun h3 =>
    zb (fX8_backlog N 7 (fX1_item 2 3 a2 0 h3) h3) fun v4 =>
    some (v4, h3)
def fX8_leave_c12b (N : Nat) (o0 : Nat) (K12 : Int → Int → Int → Int → zH → Option (Int × zH)) (l1 : Int) (l2 : Int) (l3 : Int) (l4 : Int) (h : zH) : Option (Int × zH) :=
  if zw (h (zfr o0 0) 49) ≤ zw l4 then
    zlet (zs h (zfr o0 0) 49 l3) fun h2 =>
    zlet (fX8_set o0 1 l1 (-1) h2) fun h3 =>
    zlet (fX8_set o0 6 l1 (-1) h3) fun h4 =>
    zlet (fX8_set o0 2 l1 0 h4) fun h5 =>
    some (l2, h5)
  else
    zlet (fX8_of o0 7 l4 h) fun v6 =>
    if zw v6 = zw l1 then
      K12 l1 l2 l3 (l4 + 1) h
    else
      zlet (fX8_set o0 7 l3 v6 h) fun h8 =>
      K12 l1 l2 (l3 + 1) (l4 + 1) h8
def fX8_leave_c12 (N : Nat) (o0 : Nat) : Nat → Int → Int → Int → Int → zH → Option (Int × zH)
  | 0 => fun _ _ _ _ _ => none
  | k + 1 => fX8_leave_c12b N o0 (fX8_leave_c12 N o0 k)
def fX8_leave (N : Nat) (o0 : Nat) (a1 : Int) (h : zH) : Option (Int × zH) :=
  zlet (fX8_of o0 1 a1 h) fun v1 =>
  fX8_leave_c12 N o0 N a1 v1 0 0 h
def fX10_withdraw (N : Nat) (a1 : Int) (h : zH) : Option (Int × zH) :=
  if zw (fX8_allows 7 2 1 a1 (-1) h) = 0 then
    some ((-1), h)
  else
    zb (fX0_keep 7 h) fun h2 =>
    z2 (fX8_leave N 7 a1 h2) fun v4 h3 =>
    some (v4, h3)
def fX10_canPass (a1 : Int) (a2 : Int) (h : zH) : Int :=
  if zw (fX10_hasHill h) = 0 then
    0
  else
    if zw a1 < zw 1 then
      0
    else
      if zw a2 < zw a1 then
        0
      else
        if zw 9999 < zw ((fX8_hour 7 h) + a1) then
          0
        else
          1
def fX1_portion_c15b (N : Nat) (o0 : Nat) (o1 : Nat) (h : zH) (K15 : Int → Int → Int → Int → Int → Option Int) (l2 : Int) (l3 : Int) (l4 : Int) (l5 : Int) (l6 : Int) : Option Int :=
  if zw (fX1_many o0 1 h) ≤ zw l6 then
    if zw l3 = zw (-1) then
      some 0
    else
      if zw 1 ≤ zw l4 then
        zlet (fX1_item o0 0 0 1 h) fun v4 =>
        if ¬ zw l4 = 0 then if ¬ zw l4 = 0 then if zw (zrem v4 l4) ≤ zw l5 then
          zlet (fJ9_min_7cf53 ((zdiv v4 l4) + 0) (fX1_item o0 1 l2 1 h)) fun v8 =>
          some v8
        else
          zlet (fJ9_min_7cf53 ((zdiv v4 l4) + 1) (fX1_item o0 1 l2 1 h)) fun v9 =>
          some v9 else none else none
      else
        some 0
  else
    if zw (fX10_at o1 l6 h) = zw l3 then
      if zw l2 ≤ zw l6 then
        K15 l2 l3 (l4 + 1) (l5 + 0) (l6 + 1)
      else
        K15 l2 l3 (l4 + 1) (l5 + 1) (l6 + 1)
    else
      K15 l2 l3 l4 l5 (l6 + 1)
def fX1_portion_c15 (N : Nat) (o0 : Nat) (o1 : Nat) (h : zH) : Nat → Int → Int → Int → Int → Int → Option Int
  | 0 => fun _ _ _ _ _ => none
  | k + 1 => fX1_portion_c15b N o0 o1 h (fX1_portion_c15 N o0 o1 h k)
def fX1_portion (N : Nat) (o0 : Nat) (o1 : Nat) (a2 : Int) (h : zH) : Option Int :=
  zlet (fX10_at o1 a2 h) fun v1 =>
  fX1_portion_c15 N o0 o1 h N a2 v1 0 0 0
def fX8_dawn_c66b (N : Nat) (o0 : Nat) (o1 : Nat) (K66 : Int → Int → Int → zH → Option zH) (l3 : Int) (l4 : Int) (l5 : Int) (h : zH) : Option zH :=
  if zw (fX1_many o1 1 h) ≤ zw l5 then
    zlet (fX10_put (zfr o0 1) (h (zfr o0 0) 50) (zor (zshl l4 6) l3) h) fun h2 =>
    zlet (zs h2 (zfr o0 0) 50 ((h2 (zfr o0 0) 50) + 1)) fun h3 =>
    some h3
  else
    zb (fX1_portion N o1 (zfr o0 3) l5 h) fun v4 =>
    zlet (fX8_set o0 3 l5 v4 h) fun h5 =>
    if zw (fX10_at (zfr o0 3) l5 h5) = zw (-1) then
      K66 l3 (l4 + v4) (l5 + 1) h5
    else
      zlet (zor l3 (zshl 1 l5)) fun v7 =>
      zlet (fX8_set o0 0 l5 (zand (fX8_of o0 0 l5 h5) (zxor (zshl 1 (fX10_at (zfr o0 3) l5 h5)) (-1))) h5) fun h8 =>
      K66 v7 (l4 + v4) (l5 + 1) h8
def fX8_dawn_c66 (N : Nat) (o0 : Nat) (o1 : Nat) : Nat → Int → Int → Int → zH → Option zH
  | 0 => fun _ _ _ _ => none
  | k + 1 => fX8_dawn_c66b N o0 o1 (fX8_dawn_c66 N o0 o1 k)
def fX8_dawn_c2b (N : Nat) (o0 : Nat) (o1 : Nat) (K2 : Int → Int → zH → Option zH) (l2 : Int) (l3 : Int) (h : zH) : Option zH :=
  if zw (fX1_many o1 1 h) ≤ zw l3 then
    fX8_dawn_c66 N o0 o1 N 0 0 0 h
  else
    zlet (fX1_item o1 1 l3 0 h) fun v2 =>
    if zw l2 = 0 then
      if zw (fX10_isIn (fX8_of o0 0 l3 h) v2) = 0 then
        zlet (fX10_put (zfr o0 3) l3 (-1) h) fun h5 =>
        K2 l2 (l3 + 1) h5
      else
        zlet (fX10_put (zfr o0 3) l3 v2 h) fun h6 =>
        K2 l2 (l3 + 1) h6
    else
      zlet (fX10_put (zfr o0 3) l3 (-1) h) fun h7 =>
      K2 l2 (l3 + 1) h7
def fX8_dawn_c2 (N : Nat) (o0 : Nat) (o1 : Nat) : Nat → Int → Int → zH → Option zH
  | 0 => fun _ _ _ => none
  | k + 1 => fX8_dawn_c2b N o0 o1 (fX8_dawn_c2 N o0 o1 k)
def fX8_dawn (N : Nat) (o0 : Nat) (o1 : Nat) (a2 : Int) (h : zH) : Option zH :=
  fX8_dawn_c2 N o0 o1 N a2 0 h
def fJ6_bitCount_0f7a4 (a0 : Int) : Int :=
  zlet (a0 - (zand (zushr a0 1) 1431655765)) fun v1 =>
  zlet ((zand v1 858993459) + (zand (zushr v1 2) 858993459)) fun v2 =>
  zlet (zand (v2 + (zushr v2 4)) 252645135) fun v3 =>
  zlet (v3 + (zushr v3 8)) fun v4 =>
  zlet (v4 + (zushr v4 16)) fun v5 =>
  zand v5 63
def fX5_joined (a0 : Int) (a1 : Int) (a2 : Int) : Option Int :=
  if zw a0 = 38 then
    some (zw (zand a1 a2))
  else
    if zw a0 = 42 then
      some ((zw a1) * (zw a2))
    else
      if zw a0 = 43 then
        some (zw (a1 + a2))
      else
        if zw a0 = 45 then
          some (zw (a1 - a2))
        else
          if zw a0 = 47 then
            if zw a2 = 0 then
              some 0
            else
              if ¬ zw a2 = 0 then some (zw (zdiv a1 a2)) else none
          else
            if zw a0 = 60 then
              if zw a2 ≤ zw a1 then
                some 0
              else
                some 1
            else
              if zw a0 = 61 then
                if zw a1 = zw a2 then
                  some 1
                else
                  some 0
              else
                if zw a0 = 62 then
                  if zw a1 ≤ zw a2 then
                    some 0
                  else
                    some 1
                else
                  if zw a0 = 124 then
                    some (zw (zor a1 a2))
                  else
                    some 0
def fJ9_min_f86c9 (a0 : Int) (a2 : Int) : Int :=
  if 0 < zw (zlcmp a0 a2) then
    a2
  else
    a0
def fJ9_max_f86c9 (a0 : Int) (a2 : Int) : Int :=
  if zw (zlcmp a0 a2) < 0 then
    a2
  else
    a0
def fX5_compute (o2 : Nat) (a1 : Int) (h : zH) : Option zH :=
  if zw a1 < zw 10000 then
    if zw a1 < 0 then
      if zw a1 = zw (-33) then
        if zw (fX10_at 26 ((h 5 5) - 1) h) = 0 then
          zlet (fX10_put 26 ((h 5 5) - 1) 1 h) fun h5 =>
          some h5
        else
          zlet (fX10_put 26 ((h 5 5) - 1) 0 h) fun h6 =>
          some h6
      else
        zlet (zs h 5 5 ((h 5 5) - 1)) fun h7 =>
        zb (fX5_joined (-a1) (fX10_at 26 ((h7 5 5) - 1) h7) (fX10_at 26 (h7 5 5) h7)) fun v8 =>
        zlet (fJ9_max_f86c9 (-1000000) (fJ9_min_f86c9 1000000 v8)) fun v9 =>
        zlet (fX10_put 26 ((h7 5 5) - 1) (zl2i v9) h7) fun h10 =>
        some h10
    else
      zlet (fX10_put 26 (h 5 5) a1 h) fun h11 =>
      zlet (zs h11 5 5 ((h11 5 5) + 1)) fun h12 =>
      some h12
  else
    zlet (fX10_put 26 (h 5 5) (fX10_at o2 (a1 - 10000) h) h) fun h13 =>
    zlet (zs h13 5 5 ((h13 5 5) + 1)) fun h14 =>
    some h14
def fX5_worth_c9b (N : Nat) (o1 : Nat) (K9 : Int → Int → zH → Option (Int × zH)) (l2 : Int) (l3 : Int) (h : zH) : Option (Int × zH) :=
  if zw (fX10_at 25 (h 5 1) h) ≤ zw l3 then
    some (0, h)
  else
    zlet (fX10_at 24 (((h 5 1) * 240) + l3) h) fun v2 =>
    if zw l2 = 0 then
      if zw v2 = zw (-59) then
        some (fX10_at 26 ((h 5 5) - 1) h, h)
      else
        if zw v2 = zw (-63) then
          zlet (zs h 5 5 ((h 5 5) - 1)) fun h6 =>
          if zw (fX10_at 26 (h6 5 5) h6) = 0 then
            K9 1 (l3 + 1) h6
          else
            K9 0 (l3 + 1) h6
        else
          zb (fX5_compute o1 v2 h) fun h8 =>
          K9 l2 (l3 + 1) h8
    else
      if zw v2 = zw (-59) then
        K9 0 (l3 + 1) h
      else
        K9 1 (l3 + 1) h
def fX5_worth_c9 (N : Nat) (o1 : Nat) : Nat → Int → Int → zH → Option (Int × zH)
  | 0 => fun _ _ _ => none
  | k + 1 => fX5_worth_c9b N o1 (fX5_worth_c9 N o1 k)
def fX5_worth (N : Nat) (o1 : Nat) (h : zH) : Option (Int × zH) :=
  zlet (zs h 5 5 0) fun h1 =>
  fX5_worth_c9 N o1 N 0 0 h1
def fX8_decide (N : Nat) (o0 : Nat) (o1 : Nat) (a3 : Int) (a4 : Int) (h : zH) : Option zH :=
  zlet (fX8_of o0 1 a4 h) fun v1 =>
  zlet (fX8_of o0 0 a4 h) fun v2 =>
  zlet (zs h (zfr o0 2) 0 (fX8_time o0 h)) fun h3 =>
  zlet (zs h3 (zfr o0 2) 1 (zdiv (fX8_hour o0 h3) 24)) fun h4 =>
  zb (fX8_backlog N o0 a3 h4) fun v5 =>
  zlet (zs h4 (zfr o0 2) 2 v5) fun h6 =>
  zlet (zs h6 (zfr o0 2) 3 (fJ6_bitCount_0f7a4 v2)) fun h7 =>
  zlet (zs h7 (zfr o0 2) 4 a4) fun h8 =>
  zlet (zs h8 (zfr o0 2) 5 v1) fun h9 =>
  zlet (zs h9 (zfr o0 2) 6 (fX1_item o1 1 a4 2 h9)) fun h10 =>
  z2 (fX8_leave N o0 a4 h10) fun v12 h11 =>
  zlet (fX8_set o0 4 a4 ((fX8_of o0 4 a4 h11) + (fX1_item o1 2 a3 3 h11)) h11) fun h13 =>
  if zw (h13 5 1) = zw (-1) then
    zlet (fX8_set o0 0 a4 (zor v2 (zshl 1 v1)) h13) fun h15 =>
    some h15
  else
    z2 (fX5_worth N (zfr o0 2) h13) fun v17 h16 =>
    if zw v17 ≤ 0 then
      zlet (fX8_set o0 5 a4 ((fX8_of o0 5 a4 h16) + 1) h16) fun h19 =>
      some h19
    else
      zlet (fX8_set o0 0 a4 (zor v2 (zshl 1 v1)) h16) fun h20 =>
      some h20
def fX8_serve (N : Nat) (o0 : Nat) (o1 : Nat) (a3 : Int) (h : zH) : Option zH :=
  zb (fX8_first N o0 a3 h) fun v1 =>
  if zw v1 = zw (-1) then
    some h
  else
    zlet ((fX8_of o0 2 v1 h) + 1) fun v3 =>
    zlet (fX8_set o0 2 v1 v3 h) fun h4 =>
    if zw v3 < zw (fX1_item o1 2 a3 2 h4) then
      some h4
    else
      zb (fX8_decide N o0 o1 a3 v1 h4) fun h6 =>
      some h6
def fX8_pass_c27b (N : Nat) (o0 : Nat) (o1 : Nat) (K27 : Int → Int → zH → Option zH) (l4 : Int) (l5 : Int) (h : zH) : Option zH :=
  if zw (fX1_many o1 2 h) ≤ zw l5 then
    zlet (zs h (zfr o0 0) 48 ((h (zfr o0 0) 48) + 1)) fun h2 =>
    some h2
  else
    if zw (fX1_isOpen o1 l5 l4 h) = 0 then
      K27 l4 (l5 + 1) h
    else
      zb (fX8_serve N o0 o1 l5 h) fun h4 =>
      K27 l4 (l5 + 1) h4
def fX8_pass_c27 (N : Nat) (o0 : Nat) (o1 : Nat) : Nat → Int → Int → zH → Option zH
  | 0 => fun _ _ _ => none
  | k + 1 => fX8_pass_c27b N o0 o1 (fX8_pass_c27 N o0 o1 k)
def fX8_pass (N : Nat) (o0 : Nat) (o1 : Nat) (a3 : Int) (h : zH) : Option zH :=
  zlet (fX8_time o0 h) fun v1 =>
  if zw v1 = zw (fX1_item o1 0 0 0 h) then
    zb (fX8_dawn N o0 o1 a3 h) fun h3 =>
    fX8_pass_c27 N o0 o1 N v1 0 h3
  else
    fX8_pass_c27 N o0 o1 N v1 0 h
def fX10_go_c15b (N : Nat) (K15 : Int → Int → zH → Option (Int × zH)) (l1 : Int) (l2 : Int) (h : zH) : Option (Int × zH) :=
  if zw l1 ≤ zw l2 then
    some (fX8_hour 7 h, h)
  else
    zb (fX0_keep 7 h) fun h2 =>
    zb (fX8_pass N 7 2 0 h2) fun h3 =>
    K15 l1 (l2 + 1) h3
def fX10_go_c15 (N : Nat) : Nat → Int → Int → zH → Option (Int × zH)
  | 0 => fun _ _ _ => none
  | k + 1 => fX10_go_c15b N (fX10_go_c15 N k)
def fX10_go (N : Nat) (a1 : Int) (h : zH) : Option (Int × zH) :=
  if zw (fX10_canPass a1 240 h) = 0 then
    some ((-1), h)
  else
    fX10_go_c15 N N a1 0 h
def fX8_isIdle (o0 : Nat) (o1 : Nat) (a2 : Int) (h : zH) : Int :=
  if zw (fX8_of o0 1 a2 h) = zw (-1) then
    zlet (fX10_isIn (fX8_of o0 0 a2 h) (fX1_item o1 1 a2 0 h)) fun v2 =>
    if zw v2 = 0 then
      1
    else
      0
  else
    0
def fX1_lacks_c31b (N : Nat) (o0 : Nat) (h : zH) (K12 : Int → Int → Int → Int → Option Int) (K31 : Int → Int → Int → Int → Int → Option Int) (l2 : Int) (l3 : Int) (l4 : Int) (l5 : Int) (l6 : Int) : Option Int :=
  if zw (fX1_many o0 3 h) ≤ zw l6 then
    K12 l2 l3 l4 (l5 + 1)
  else
    if zw (fX10_isIn l3 l6) = 0 then
      K31 l2 l3 l4 l5 (l6 + 1)
    else
      zlet (zor l3 (zand (fX1_wants o0 l6 h) (zxor l2 (-1)))) fun v3 =>
      K31 l2 v3 l4 l5 (l6 + 1)
def fX1_lacks_c31 (N : Nat) (o0 : Nat) (h : zH) (K12 : Int → Int → Int → Int → Option Int) : Nat → Int → Int → Int → Int → Int → Option Int
  | 0 => fun _ _ _ _ _ => none
  | k + 1 => fX1_lacks_c31b N o0 h K12 (fX1_lacks_c31 N o0 h K12 k)
def fX1_lacks_c12b (N : Nat) (o0 : Nat) (h : zH) (K12 : Int → Int → Int → Int → Option Int) (l2 : Int) (l3 : Int) (l4 : Int) (l5 : Int) : Option Int :=
  if zw 8 ≤ zw l5 then
    some l3
  else
    if zw l3 = zw l4 then
      some l3
    else
      fX1_lacks_c31 N o0 h K12 N l2 l3 l3 l5 0
def fX1_lacks_c12 (N : Nat) (o0 : Nat) (h : zH) : Nat → Int → Int → Int → Int → Option Int
  | 0 => fun _ _ _ _ => none
  | k + 1 => fX1_lacks_c12b N o0 h (fX1_lacks_c12 N o0 h k)
def fX1_lacks (N : Nat) (o0 : Nat) (a1 : Int) (a2 : Int) (h : zH) : Option Int :=
  zlet (zand a1 (zxor a2 (-1))) fun v1 =>
  fX1_lacks_c12 N o0 h N a2 v1 0 0
def fX10_lacksOf (N : Nat) (a1 : Int) (a2 : Int) (h : zH) : Option Int :=
  zb (fX1_lacks N 2 (zshl 1 (fX1_item 2 1 a1 0 h)) (zor (fX8_of 7 0 a1 h) a2) h) fun v1 =>
  some v1
def fX3_isNext (o0 : Nat) (a1 : Int) (a2 : Int) (h : zH) : Int :=
  if zw (fX10_isIn a1 a2) = 0 then
    0
  else
    if zw (zand (fX1_wants o0 a2 h) a1) = 0 then
      1
    else
      0
def fX1_span_c61 (o0 : Nat) (h : zH) (l2 : Int) (l3 : Int) (l4 : Int) (l5 : Int) (l6 : Int) (s0 : Int) : Option Int :=
  zlet ((s0 + (fX1_item o0 2 l3 2 h)) - 1) fun v1 =>
  if zw l2 < zw l5 then
    if ¬ zw l6 = 0 then if ¬ zw l6 = 0 then zlet ((((0 + ((zdiv v1 l6) * 24)) + l4) + (zrem v1 l6)) + 1) fun v5 =>
    some (v5 - l2) else none else none
  else
    if ¬ zw l6 = 0 then if ¬ zw l6 = 0 then zlet ((((24 + ((zdiv v1 l6) * 24)) + l4) + (zrem v1 l6)) + 1) fun v8 =>
    some (v8 - l2) else none else none
def fX1_span (o0 : Nat) (a1 : Int) (a2 : Int) (h : zH) : Option Int :=
  zlet (fX1_item o0 3 a1 0 h) fun v1 =>
  zlet (fX1_item o0 2 v1 0 h) fun v2 =>
  zlet (fX1_item o0 2 v1 1 h) fun v3 =>
  if zw 1 ≤ zw (v3 - v2) then
    if zw a2 ≤ zw v2 then
      fX1_span_c61 o0 h a2 v1 v2 v3 (v3 - v2) 0
    else
      if zw v3 ≤ zw a2 then
        fX1_span_c61 o0 h a2 v1 v2 v3 (v3 - v2) 0
      else
        fX1_span_c61 o0 h a2 v1 v2 v3 (v3 - v2) (a2 - v2)
  else
    some (-1)
def fX3_fewest_c43b (N : Nat) (R_fX3_fewest : Nat → Nat → Int → Int → Int → zH → Option (Int × zH)) (o0 : Nat) (o1 : Nat) (K43 : Int → Int → Int → Int → Int → zH → Option (Int × zH)) (l2 : Int) (l3 : Int) (l4 : Int) (l6 : Int) (l7 : Int) (h : zH) : Option (Int × zH) :=
  if zw (fX1_many o1 3 h) ≤ zw l7 then
    zlet (fX10_put o0 ((l2 * 24) + l3) (l6 + 2) h) fun h2 =>
    some (l6, h2)
  else
    if zw (fX3_isNext o1 l2 l7 h) = 0 then
      K43 l2 l3 l4 l6 (l7 + 1) h
    else
      zb (fX1_span o1 l7 l3 h) fun v4 =>
      z2 (R_fX3_fewest o0 o1 (zand l2 (zxor (zshl 1 l7) (-1))) (zrem (l3 + v4) 24) (l4 + 1) h) fun v6 h5 =>
      if zw v6 = zw (-1) then
        K43 l2 l3 l4 l6 (l7 + 1) h5
      else
        if zw l6 = zw (-1) then
          K43 l2 l3 l4 (v4 + v6) (l7 + 1) h5
        else
          if zw l6 ≤ zw (v4 + v6) then
            K43 l2 l3 l4 l6 (l7 + 1) h5
          else
            K43 l2 l3 l4 (v4 + v6) (l7 + 1) h5
def fX3_fewest_c43 (N : Nat) (R_fX3_fewest : Nat → Nat → Int → Int → Int → zH → Option (Int × zH)) (o0 : Nat) (o1 : Nat) : Nat → Int → Int → Int → Int → Int → zH → Option (Int × zH)
  | 0 => fun _ _ _ _ _ _ => none
  | k + 1 => fX3_fewest_c43b N R_fX3_fewest o0 o1 (fX3_fewest_c43 N R_fX3_fewest o0 o1 k)
def fX3_fewest_b (N : Nat) (R_fX3_fewest : Nat → Nat → Int → Int → Int → zH → Option (Int × zH)) (o0 : Nat) (o1 : Nat) (a2 : Int) (a3 : Int) (a4 : Int) (h : zH) : Option (Int × zH) :=
  if zw a2 = 0 then
    some (0, h)
  else
    if zw a4 < zw 8 then
      zlet (fX10_at o0 ((a2 * 24) + a3) h) fun v3 =>
      if zw v3 = 0 then
        fX3_fewest_c43 N R_fX3_fewest o0 o1 N a2 a3 a4 (-1) 0 h
      else
        some (v3 - 2, h)
    else
      some ((-1), h)
def fG_X3_fewest (N : Nat) : Nat → (Nat → Nat → Int → Int → Int → zH → Option (Int × zH))
  | 0 => (fun _ _ _ _ _ _ => none)
  | k + 1 => fX3_fewest_b N ((fG_X3_fewest N k))
def fX3_fewest (N : Nat) : Nat → Nat → Int → Int → Int → zH → Option (Int × zH) := (fG_X3_fewest N 60)
def fX3_first_c16b (N : Nat) (o1 : Nat) (K16 : Int → Int → Int → Int → zH → Option (Int × zH)) (l2 : Int) (l3 : Int) (l4 : Int) (l5 : Int) (h : zH) : Option (Int × zH) :=
  if zw (fX1_many o1 3 h) ≤ zw l5 then
    some ((-1), h)
  else
    if zw l4 = zw (-1) then
      some ((-1), h)
    else
      if zw (fX3_isNext o1 l2 l5 h) = 0 then
        K16 l2 l3 l4 (l5 + 1) h
      else
        zb (fX1_span o1 l5 l3 h) fun v4 =>
        z2 (fX3_fewest N 43 o1 (zand l2 (zxor (zshl 1 l5) (-1))) (zrem (l3 + v4) 24) 0 h) fun v6 h5 =>
        if zw v6 = zw (-1) then
          K16 l2 l3 l4 (l5 + 1) h5
        else
          if zw (v4 + v6) = zw l4 then
            some (l5, h5)
          else
            K16 l2 l3 l4 (l5 + 1) h5
def fX3_first_c16 (N : Nat) (o1 : Nat) : Nat → Int → Int → Int → Int → zH → Option (Int × zH)
  | 0 => fun _ _ _ _ _ => none
  | k + 1 => fX3_first_c16b N o1 (fX3_first_c16 N o1 k)
def fX3_first (N : Nat) (o1 : Nat) (a2 : Int) (a3 : Int) (h : zH) : Option (Int × zH) :=
  z2 (fX3_fewest N 43 o1 a2 a3 0 h) fun v2 h1 =>
  fX3_first_c16 N o1 N a2 a3 v2 0 h1
def fX10_fileSoonest (N : Nat) (a1 : Int) (h : zH) : Option zH :=
  zb (fX10_lacksOf N a1 0 h) fun v1 =>
  z2 (fX3_first N 2 v1 (fX8_time 7 h) h) fun v3 h2 =>
  if zw (fX8_allows 7 2 0 a1 v3 h2) = 0 then
    some h2
  else
    zlet (fX8_enqueue 7 2 a1 v3 h2) fun h5 =>
    some h5
def fX10_toil_c32b (N : Nat) (K14 : Int → Int → zH → Option (Int × zH)) (K32 : Int → Int → Int → zH → Option (Int × zH)) (l1 : Int) (l2 : Int) (l3 : Int) (h : zH) : Option (Int × zH) :=
  if zw (fX1_many 2 1 h) ≤ zw l3 then
    zb (fX8_pass N 7 2 0 h) fun h2 =>
    K14 l1 (l2 + 1) h2
  else
    if zw (fX8_isIdle 7 2 l3 h) = 0 then
      K32 l1 l2 (l3 + 1) h
    else
      zb (fX10_fileSoonest N l3 h) fun h4 =>
      K32 l1 l2 (l3 + 1) h4
def fX10_toil_c32 (N : Nat) (K14 : Int → Int → zH → Option (Int × zH)) : Nat → Int → Int → Int → zH → Option (Int × zH)
  | 0 => fun _ _ _ _ => none
  | k + 1 => fX10_toil_c32b N K14 (fX10_toil_c32 N K14 k)
def fX10_toil_c14b (N : Nat) (K14 : Int → Int → zH → Option (Int × zH)) (l1 : Int) (l2 : Int) (h : zH) : Option (Int × zH) :=
  if zw l1 ≤ zw l2 then
    some (fX8_hour 7 h, h)
  else
    zb (fX0_keep 7 h) fun h2 =>
    fX10_toil_c32 N K14 N l1 l2 0 h2
def fX10_toil_c14 (N : Nat) : Nat → Int → Int → zH → Option (Int × zH)
  | 0 => fun _ _ _ => none
  | k + 1 => fX10_toil_c14b N (fX10_toil_c14 N k)
def fX10_toil (N : Nat) (a1 : Int) (h : zH) : Option (Int × zH) :=
  if zw (fX10_canPass a1 48 h) = 0 then
    some ((-1), h)
  else
    fX10_toil_c14 N N a1 0 h
def fX10_draw (a1 : Int) (h : zH) : Option (Int × zH) :=
  zlet (zs h 0 15 (((h 0 15) * 6364136223846793005) + 1442695040888963407)) fun h1 =>
  if zw 1 ≤ zw a1 then
    if ¬ zwl (zw a1) = 0 then some (zl2i (zlrem (zlushr (h1 0 15) 33) (zw a1)), h1) else none
  else
    some (0, h1)
def fX10_years_c127 (N : Nat) (K21 : Int → Int → zH → Option (Int × zH)) (l1 : Int) (l4 : Int) (s0 : Int) (h : zH) : Option (Int × zH) :=
  if zw s0 = 0 then
    zb (fX8_pass N 7 2 0 h) fun h2 =>
    K21 l1 (l4 + 1) h2
  else
    z2 (fX10_draw 100 h) fun v4 h3 =>
    if zw (h3 0 14) ≤ zw v4 then
      zb (fX8_pass N 7 2 0 h3) fun h6 =>
      K21 l1 (l4 + 1) h6
    else
      zb (fX8_pass N 7 2 1 h3) fun h7 =>
      K21 l1 (l4 + 1) h7
def fX10_years_c41b (N : Nat) (K21 : Int → Int → zH → Option (Int × zH)) (K41 : Int → Int → Int → zH → Option (Int × zH)) (l1 : Int) (l4 : Int) (l5 : Int) (h : zH) : Option (Int × zH) :=
  if zw (fX1_many 2 1 h) ≤ zw l5 then
    if zw (fX8_time 7 h) = zw (fX1_item 2 0 0 0 h) then
      fX10_years_c127 N K21 l1 l4 1 h
    else
      fX10_years_c127 N K21 l1 l4 0 h
  else
    if zw (fX8_isIdle 7 2 l5 h) = 0 then
      K41 l1 l4 (l5 + 1) h
    else
      z2 (fX10_draw 10 h) fun v5 h4 =>
      if zw (fX1_item 2 1 l5 2 h4) ≤ zw v5 then
        K41 l1 l4 (l5 + 1) h4
      else
        zb (fX10_fileSoonest N l5 h4) fun h7 =>
        K41 l1 l4 (l5 + 1) h7
def fX10_years_c41 (N : Nat) (K21 : Int → Int → zH → Option (Int × zH)) : Nat → Int → Int → Int → zH → Option (Int × zH)
  | 0 => fun _ _ _ _ => none
  | k + 1 => fX10_years_c41b N K21 (fX10_years_c41 N K21 k)
def fX10_years_c21b (N : Nat) (K21 : Int → Int → zH → Option (Int × zH)) (l1 : Int) (l4 : Int) (h : zH) : Option (Int × zH) :=
  if zw l1 ≤ zw l4 then
    some (fX8_hour 7 h, h)
  else
    zb (fX0_keep 7 h) fun h2 =>
    fX10_years_c41 N K21 N l1 l4 0 h2
def fX10_years_c21 (N : Nat) : Nat → Int → Int → zH → Option (Int × zH)
  | 0 => fun _ _ _ => none
  | k + 1 => fX10_years_c21b N (fX10_years_c21 N k)
def fX10_years (N : Nat) (a1 : Int) (a2 : Int) (h : zH) : Option (Int × zH) :=
  if zw (fX10_canPass a1 240 h) = 0 then
    some ((-1), h)
  else
    zlet (zs h 0 15 a2) fun h2 =>
    fX10_years_c21 N N a1 0 h2
def fX0_restore (o1 : Nat) (h : zH) : Option (Int × zH) :=
  if zw 1 ≤ zw (h 10 0) then
    zb (fJ9_floorMod_7cf53 (h 10 2) 40) fun v2 =>
    if 0 ≤ zw (v2 * 51) ∧ 0 ≤ zw 0 ∧ 0 ≤ zw 51 ∧ zw (v2 * 51) + zw 51 ≤ 2040 ∧ zw 0 + zw 51 ≤ 51 then
    zlet (zcopy h 42 (zw (v2 * 51)).toNat (zfr o1 0) (zw 0).toNat (zw 51).toNat) fun h3 =>
    zlet (zs h3 10 2 ((h3 10 2) - 1)) fun h5 =>
    zlet (zs h5 10 0 ((h5 10 0) - 1)) fun h6 =>
    some (h6 10 0, h6) else none
  else
    some ((-1), h)
def fX10_undo (h : zH) : Option (Int × zH) :=
  z2 (fX0_restore 7 h) fun v2 h1 =>
  some (v2, h1)
def fX8_logLength (o0 : Nat) (h : zH) : Int :=
  fJ9_min_7cf53 (h (zfr o0 0) 50) 60
def fX8_whoHadLight (o0 : Nat) (a1 : Int) (h : zH) : Int :=
  zlet (fX10_at (zfr o0 1) (((h (zfr o0 0) 50) - (fX8_logLength o0 h)) + a1) h) fun v1 =>
  zand v1 63
def fX8_hoursOfLight (o0 : Nat) (a1 : Int) (h : zH) : Int :=
  zlet (fX10_at (zfr o0 1) (((h (zfr o0 0) 50) - (fX8_logLength o0 h)) + a1) h) fun v1 =>
  zshr v1 6
def fX10_log (a1 : Int) (a2 : Int) (h : zH) : Int :=
  if zw a1 < 0 then
    (-1)
  else
    if zw (fX8_logLength 7 h) ≤ zw a1 then
      (-1)
    else
      if zw a2 < 0 then
        (-1)
      else
        if zw a2 ≤ zw 1 then
          zlet (((fX8_logLength 7 h) - 1) - a1) fun v5 =>
          if zw a2 = 0 then
            fX8_whoHadLight 7 v5 h
          else
            fX8_hoursOfLight 7 v5 h
        else
          (-1)
def fX2_has (a1 : Int) (h : zH) : Int :=
  if zw a1 < 0 then
    0
  else
    if zw (h 6 0) ≤ zw a1 then
      0
    else
      1
def fX2_length (a1 : Int) (h : zH) : Int :=
  if zw (fX2_has a1 h) = 0 then
    0
  else
    fX10_at 28 a1 h
def fX2_part (a1 : Int) (a2 : Int) (a3 : Int) (h : zH) : Int :=
  if zw a2 < 0 then
    (-1)
  else
    if zw (fX2_length a1 h) ≤ zw a2 then
      (-1)
    else
      if zw a3 < 0 then
        (-1)
      else
        if zw a3 < zw 3 then
          fX10_at 27 (((a1 * 48) + (a2 * 3)) + a3) h
        else
          (-1)
def fX10_step (a1 : Int) (a2 : Int) (a3 : Int) (h : zH) : Int :=
  fX2_part a1 a2 a3 h
def fX8_take (o0 : Nat) (o1 : Nat) (h : zH) : Option zH :=
  if 0 ≤ zw 0 ∧ 0 ≤ zw 0 ∧ 0 ≤ zw 51 ∧ zw 0 + zw 51 ≤ 51 ∧ zw 0 + zw 51 ≤ 51 then
  zlet (zcopy h (zfr o1 0) (zw 0).toNat (zfr o0 0) (zw 0).toNat (zw 51).toNat) fun h1 =>
  zlet (fJ9_min_7cf53 (zln (zfr o0 1) : Int) (zln (zfr o1 1) : Int)) fun v3 =>
  if 0 ≤ zw 0 ∧ 0 ≤ zw 0 ∧ 0 ≤ zw v3 ∧ zw 0 + zw v3 ≤ (zln (zfr o1 1) : Int) ∧ zw 0 + zw v3 ≤ (zln (zfr o0 1) : Int) then
  zlet (zcopy h1 (zfr o1 1) (zw 0).toNat (zfr o0 1) (zw 0).toNat (zw v3).toNat) fun h4 =>
  some h4 else none else none
def fX10_canStep (o1 : Nat) (a2 : Int) (a3 : Int) (h : zH) : Option Int :=
  zlet (fX8_allows o1 2 (fX2_part a2 a3 0 h) (fX2_part a2 a3 1 h) (fX2_part a2 a3 2 h) h) fun v1 =>
  if v1 = 0 ∨ v1 = 1 then some v1 else none
def fX10_takeStep (N : Nat) (o1 : Nat) (a2 : Int) (a3 : Int) (h : zH) : Option zH :=
  zlet (fX2_part a2 a3 0 h) fun v1 =>
  if zw v1 = 0 then
    zlet (fX8_enqueue o1 2 (fX2_part a2 a3 1 h) (fX2_part a2 a3 2 h) h) fun h3 =>
    some h3
  else
    if zw v1 = zw 1 then
      z2 (fX8_leave N o1 (fX2_part a2 a3 1 h) h) fun v6 h5 =>
      some h5
    else
      zb (fX8_pass N o1 2 0 h) fun h7 =>
      some h7
def fX10_run_c34b (N : Nat) (K34 : Int → Int → zH → Option (Int × zH)) (l1 : Int) (l2 : Int) (h : zH) : Option (Int × zH) :=
  if zw (fX2_length l1 h) ≤ zw l2 then
    some ((-1), h)
  else
    zb (fX10_canStep 8 l1 l2 h) fun v2 =>
    if zw v2 = 0 then
      some (l2, h)
    else
      zb (fX10_takeStep N 8 l1 l2 h) fun h4 =>
      K34 l1 (l2 + 1) h4
def fX10_run_c34 (N : Nat) : Nat → Int → Int → zH → Option (Int × zH)
  | 0 => fun _ _ _ => none
  | k + 1 => fX10_run_c34b N (fX10_run_c34 N k)
def fX10_run (N : Nat) (a1 : Int) (h : zH) : Option (Int × zH) :=
  if zw (fX10_hasHill h) = 0 then
    some ((-1000000), h)
  else
    if zw (fX2_has a1 h) = 0 then
      some ((-1000000), h)
    else
      zb (fX8_take 8 7 h) fun h3 =>
      fX10_run_c34 N N a1 0 h3
def fX10_perform_c22b (N : Nat) (K22 : Int → Int → zH → Option (Int × zH)) (l1 : Int) (l2 : Int) (h : zH) : Option (Int × zH) :=
  if zw (fX2_length l1 h) ≤ zw l2 then
    some (fX2_length l1 h, h)
  else
    zb (fX10_canStep 7 l1 l2 h) fun v2 =>
    if zw v2 = 0 then
      some (l2, h)
    else
      zb (fX0_keep 7 h) fun h4 =>
      zb (fX10_takeStep N 7 l1 l2 h4) fun h5 =>
      K22 l1 (l2 + 1) h5
def fX10_perform_c22 (N : Nat) : Nat → Int → Int → zH → Option (Int × zH)
  | 0 => fun _ _ _ => none
  | k + 1 => fX10_perform_c22b N (fX10_perform_c22 N k)
def fX10_perform (N : Nat) (a1 : Int) (h : zH) : Option (Int × zH) :=
  if zw (fX10_hasHill h) = 0 then
    some ((-1), h)
  else
    if zw (fX2_has a1 h) = 0 then
      some ((-1), h)
    else
      fX10_perform_c22 N N a1 0 h
def fX10_ahead_c48b (N : Nat) (K48 : Int → Int → Int → Int → zH → Option (Int × zH)) (l1 : Int) (l2 : Int) (l3 : Int) (l4 : Int) (h : zH) : Option (Int × zH) :=
  if zw l2 ≤ zw l4 then
    if zw l3 = 0 then
      some (fX8_of 8 0 l1 h, h)
    else
      some (fX8_of 8 3 l1 h, h)
  else
    zb (fX8_pass N 8 2 0 h) fun h3 =>
    K48 l1 l2 l3 (l4 + 1) h3
def fX10_ahead_c48 (N : Nat) : Nat → Int → Int → Int → Int → zH → Option (Int × zH)
  | 0 => fun _ _ _ _ _ => none
  | k + 1 => fX10_ahead_c48b N (fX10_ahead_c48 N k)
def fX10_ahead (N : Nat) (a1 : Int) (a2 : Int) (a3 : Int) (h : zH) : Option (Int × zH) :=
  if zw (fX1_has 2 1 a1 h) = 0 then
    some ((-1), h)
  else
    if zw a2 < 0 then
      some ((-1), h)
    else
      if zw 240 < zw a2 then
        some ((-1), h)
      else
        if zw a3 < 0 then
          some ((-1), h)
        else
          if zw a3 ≤ zw 1 then
            zb (fX8_take 8 7 h) fun h6 =>
            fX10_ahead_c48 N N a1 a2 a3 0 h6
          else
            some ((-1), h)
def fX10_needed (N : Nat) (a1 : Int) (h : zH) : Option Int :=
  if zw (fX1_has 2 3 a1 h) = 0 then
    some (-1)
  else
    zb (fX1_lacks N 2 (zshl 1 a1) 0 h) fun v2 =>
    some v2
def fX10_ring_c13b (N : Nat) (h : zH) (K13 : Int → Int → Option Int) (l1 : Int) (l2 : Int) : Option Int :=
  if zw (fX1_many 2 3 h) ≤ zw l2 then
    some l1
  else
    zb (fX1_lacks N 2 (fX1_wants 2 l2 h) 0 h) fun v2 =>
    zlet (zor l1 (zand v2 (zshl 1 l2))) fun v3 =>
    K13 v3 (l2 + 1)
def fX10_ring_c13 (N : Nat) (h : zH) : Nat → Int → Int → Option Int
  | 0 => fun _ _ => none
  | k + 1 => fX10_ring_c13b N h (fX10_ring_c13 N h k)
def fX10_ring (N : Nat) (h : zH) : Option Int :=
  if zw (fX10_hasHill h) = 0 then
    some (-1)
  else
    fX10_ring_c13 N h N 0 0
def fX3_hours (N : Nat) (o1 : Nat) (a2 : Int) (a3 : Int) (h : zH) : Option (Int × zH) :=
  z2 (fX3_fewest N 43 o1 a2 a3 0 h) fun v2 h1 =>
  some (v2, h1)
def fX3_row_c20b (N : Nat) (o1 : Nat) (K20 : Int → Int → Int → Int → zH → Option (Int × zH)) (l4 : Int) (l5 : Int) (l6 : Int) (l7 : Int) (h : zH) : Option (Int × zH) :=
  if zw 8 ≤ zw l7 then
    some (l4, h)
  else
    if zw l5 = 0 then
      some (l4, h)
    else
      z2 (fX3_first N o1 l5 l6 h) fun v4 h3 =>
      if zw v4 = zw (-1) then
        some ((-1), h3)
      else
        zb (fX1_span o1 v4 l6 h3) fun v6 =>
        zlet (zrem (l6 + v6) 24) fun v7 =>
        zlet (zand l5 (zxor (zshl 1 v4) (-1))) fun v8 =>
        K20 ((l4 * 10) + v4) v8 v7 (l7 + 1) h3
def fX3_row_c20 (N : Nat) (o1 : Nat) : Nat → Int → Int → Int → Int → zH → Option (Int × zH)
  | 0 => fun _ _ _ _ _ => none
  | k + 1 => fX3_row_c20b N o1 (fX3_row_c20 N o1 k)
def fX3_row (N : Nat) (o1 : Nat) (a2 : Int) (a3 : Int) (h : zH) : Option (Int × zH) :=
  if zw a2 = 0 then
    fX3_row_c20 N o1 N (-1) a2 a3 0 h
  else
    fX3_row_c20 N o1 N 0 a2 a3 0 h
def fX1_fees_c4b (N : Nat) (o0 : Nat) (h : zH) (K4 : Int → Int → Int → Option Int) (l1 : Int) (l2 : Int) (l3 : Int) : Option Int :=
  if zw (fX1_many o0 3 h) ≤ zw l3 then
    some l2
  else
    if zw (fX10_isIn l1 l3) = 0 then
      K4 l1 l2 (l3 + 1)
    else
      zlet (l2 + (fX1_item o0 2 (fX1_item o0 3 l3 0 h) 3 h)) fun v3 =>
      K4 l1 v3 (l3 + 1)
def fX1_fees_c4 (N : Nat) (o0 : Nat) (h : zH) : Nat → Int → Int → Int → Option Int
  | 0 => fun _ _ _ => none
  | k + 1 => fX1_fees_c4b N o0 h (fX1_fees_c4 N o0 h k)
def fX1_fees (N : Nat) (o0 : Nat) (a1 : Int) (h : zH) : Option Int :=
  fX1_fees_c4 N o0 h N a1 0 0
def fX10_soonest (N : Nat) (a1 : Int) (a2 : Int) (h : zH) : Option (Int × zH) :=
  if zw (fX1_has 2 1 a1 h) = 0 then
    some ((-1), h)
  else
    if zw a2 < 0 then
      some ((-1), h)
    else
      if zw a2 ≤ zw 2 then
        zb (fX10_lacksOf N a1 0 h) fun v4 =>
        z2 (fX3_hours N 2 v4 (fX8_time 7 h) h) fun v6 h5 =>
        if zw v6 = zw (-1) then
          some (v6, h5)
        else
          if zw a2 = 0 then
            some (v6, h5)
          else
            if zw a2 = zw 1 then
              z2 (fX3_row N 2 v4 (fX8_time 7 h5) h5) fun v11 h10 =>
              some (v11, h10)
            else
              zb (fX1_fees N 2 v4 h5) fun v12 =>
              some (v12, h5)
      else
        some ((-1), h)
def fX10_hasRow (N : Nat) (a1 : Int) (a2 : Int) (h : zH) : Option (Int × zH) :=
  zb (fX10_lacksOf N a1 a2 h) fun v1 =>
  z2 (fX3_hours N 2 v1 (fX8_time 7 h) h) fun v3 h2 =>
  if zw v3 = zw (-1) then
    some (0, h2)
  else
    some (1, h2)
def fX10_waived_c27b (N : Nat) (K27 : Int → Int → zH → Option (Int × zH)) (l1 : Int) (l2 : Int) (h : zH) : Option (Int × zH) :=
  if zw (fX1_many 2 3 h) ≤ zw l2 then
    some ((-1), h)
  else
    z2 (fX10_hasRow N l1 (zshl 1 l2) h) fun v3 h2 =>
    if zw v3 = 0 then
      K27 l1 (l2 + 1) h2
    else
      some (zshl 1 l2, h2)
def fX10_waived_c27 (N : Nat) : Nat → Int → Int → zH → Option (Int × zH)
  | 0 => fun _ _ _ => none
  | k + 1 => fX10_waived_c27b N (fX10_waived_c27 N k)
def fX10_waived (N : Nat) (a1 : Int) (h : zH) : Option (Int × zH) :=
  if zw (fX1_has 2 1 a1 h) = 0 then
    some ((-1), h)
  else
    z2 (fX10_hasRow N a1 0 h) fun v3 h2 =>
    if zw v3 = 0 then
      fX10_waived_c27 N N a1 0 h2
    else
      some (0, h2)
def fX10_earliest_c6b (N : Nat) (K6 : Int → Int → Int → zH → Option (Int × zH)) (l1 : Int) (l2 : Int) (l3 : Int) (h : zH) : Option (Int × zH) :=
  if zw (fX1_many 2 1 h) ≤ zw l3 then
    some (l1, h)
  else
    zb (fX10_lacksOf N l3 0 h) fun v2 =>
    z2 (fX3_hours N 2 v2 (fX8_time 7 h) h) fun v4 h3 =>
    if zw v4 = zw (-1) then
      K6 l1 l2 (l3 + 1) h3
    else
      if zw l1 = zw (-1) then
        K6 l3 v4 (l3 + 1) h3
      else
        if zw l2 ≤ zw v4 then
          K6 l1 l2 (l3 + 1) h3
        else
          K6 l3 v4 (l3 + 1) h3
def fX10_earliest_c6 (N : Nat) : Nat → Int → Int → Int → zH → Option (Int × zH)
  | 0 => fun _ _ _ _ => none
  | k + 1 => fX10_earliest_c6b N (fX10_earliest_c6 N k)
def fX10_earliest (N : Nat) (h : zH) : Option (Int × zH) :=
  fX10_earliest_c6 N N (-1) (-1) 0 h
def fX6_formsOf_c4b (N : Nat) (o0 : Nat) (h : zH) (K4 : Int → Int → Option Int) (l1 : Int) (l2 : Int) : Option Int :=
  if zw (fX1_many o0 1 h) ≤ zw l2 then
    some l1
  else
    zlet (zor l1 (zshl 1 (fX1_item o0 1 l2 0 h))) fun v2 =>
    K4 v2 (l2 + 1)
def fX6_formsOf_c4 (N : Nat) (o0 : Nat) (h : zH) : Nat → Int → Int → Option Int
  | 0 => fun _ _ => none
  | k + 1 => fX6_formsOf_c4b N o0 h (fX6_formsOf_c4 N o0 h k)
def fX6_formsOf (N : Nat) (o0 : Nat) (h : zH) : Option Int :=
  fX6_formsOf_c4 N o0 h N 0 0
def fX6_choose_c17b (N : Nat) (o1 : Nat) (K17 : Int → Int → Int → Int → zH → Option (Int × zH)) (l2 : Int) (l3 : Int) (l4 : Int) (l5 : Int) (h : zH) : Option (Int × zH) :=
  if zw l5 < 0 then
    if zw l4 = 0 then
      some (1, h)
    else
      some (0, h)
  else
    if zw l2 < 0 then
      some (0, h)
    else
      if zw (fX10_isIn l3 (zrem l4 10)) = 0 then
        some (0, h)
      else
        zlet (fX10_put 44 l5 (zrem l4 10) h) fun h5 =>
        K17 l2 l3 (zdiv l4 10) (l5 + (-1)) h5
def fX6_choose_c17 (N : Nat) (o1 : Nat) : Nat → Int → Int → Int → Int → zH → Option (Int × zH)
  | 0 => fun _ _ _ _ _ => none
  | k + 1 => fX6_choose_c17b N o1 (fX6_choose_c17 N o1 k)
def fX6_choose (N : Nat) (o1 : Nat) (a2 : Int) (h : zH) : Option (Int × zH) :=
  zb (fX6_formsOf N o1 h) fun v1 =>
  zlet ((fX1_many o1 1 h) - 1) fun v2 =>
  fX6_choose_c17 N o1 N a2 v1 a2 v2 h
def fX10_share (N : Nat) (a1 : Int) (a2 : Int) (h : zH) : Option (Int × zH) :=
  if zw (fX1_has 2 1 a2 h) = 0 then
    some ((-1000000), h)
  else
    if zw 5 < zw (fX1_many 2 1 h) then
      some ((-1000000), h)
    else
      z2 (fX6_choose N 2 a1 h) fun v4 h3 =>
      if zw v4 = 0 then
        some ((-1000000), h3)
      else
        zb (fX1_portion N 2 44 a2 h3) fun v6 =>
        some (v6, h3)
def fX6_listForms_c12b (N : Nat) (o1 : Nat) (K12 : Int → Int → zH → Option zH) (l2 : Int) (l3 : Int) (h : zH) : Option zH :=
  if zw 8 ≤ zw l3 then
    some h
  else
    if zw (fX10_isIn l2 l3) = 0 then
      K12 l2 (l3 + 1) h
    else
      zlet (fX10_put 45 (h 12 2) l3 h) fun h3 =>
      zlet (zs h3 12 2 ((h3 12 2) + 1)) fun h4 =>
      K12 l2 (l3 + 1) h4
def fX6_listForms_c12 (N : Nat) (o1 : Nat) : Nat → Int → Int → zH → Option zH
  | 0 => fun _ _ _ => none
  | k + 1 => fX6_listForms_c12b N o1 (fX6_listForms_c12 N o1 k)
def fX6_listForms (N : Nat) (o1 : Nat) (h : zH) : Option zH :=
  zb (fX6_formsOf N o1 h) fun v1 =>
  zlet (zs h 12 2 0) fun h2 =>
  fX6_listForms_c12 N o1 N v1 0 h2
def fX6_chooseNth_c17b (N : Nat) (o1 : Nat) (K17 : Int → Int → Int → Int → zH → Option (Int × zH)) (l3 : Int) (l4 : Int) (l5 : Int) (l6 : Int) (h : zH) : Option (Int × zH) :=
  if zw l6 < 0 then
    some (l3, h)
  else
    if zw (h 12 2) ≤ 0 then
      some (l3, h)
    else
      if ¬ zw (h 12 2) = 0 then zlet (fX10_put 44 l6 (fX10_at 45 (zrem l5 (h 12 2)) h) h) fun h4 =>
      zlet (l3 + ((fX10_at 44 l6 h4) * l4)) fun v5 =>
      if ¬ zw (h4 12 2) = 0 then zlet (zdiv l5 (h4 12 2)) fun v7 =>
      K17 v5 (l4 * 10) v7 (l6 + (-1)) h4 else none else none
def fX6_chooseNth_c17 (N : Nat) (o1 : Nat) : Nat → Int → Int → Int → Int → zH → Option (Int × zH)
  | 0 => fun _ _ _ _ _ => none
  | k + 1 => fX6_chooseNth_c17b N o1 (fX6_chooseNth_c17 N o1 k)
def fX6_chooseNth (N : Nat) (o1 : Nat) (a2 : Int) (h : zH) : Option (Int × zH) :=
  zlet ((fX1_many o1 1 h) - 1) fun v1 =>
  fX6_chooseNth_c17 N o1 N 0 1 a2 v1 h
def fX6_isAtRest_c37b (N : Nat) (o1 : Nat) (K2 : Int → zH → Option (Int × zH)) (K37 : Int → Int → Int → Int → Int → zH → Option (Int × zH)) (l2 : Int) (l3 : Int) (l4 : Int) (l5 : Int) (l6 : Int) (h : zH) : Option (Int × zH) :=
  if zw (h 12 2) ≤ zw l6 then
    zlet (fX10_put 44 l2 l3 h) fun h2 =>
    if zw l5 = 0 then
      K2 (l2 + 1) h2
    else
      some (0, h2)
  else
    if zw l5 = 0 then
      zlet (fX10_put 44 l2 (fX10_at 45 l6 h) h) fun h5 =>
      zb (fX1_portion N o1 44 l2 h5) fun v6 =>
      if zw v6 ≤ zw l4 then
        K37 l2 l3 l4 0 (l6 + 1) h5
      else
        K37 l2 l3 l4 1 (l6 + 1) h5
    else
      zlet (fX10_put 44 l2 l3 h) fun h8 =>
      if zw l5 = 0 then
        K2 (l2 + 1) h8
      else
        some (0, h8)
def fX6_isAtRest_c37 (N : Nat) (o1 : Nat) (K2 : Int → zH → Option (Int × zH)) : Nat → Int → Int → Int → Int → Int → zH → Option (Int × zH)
  | 0 => fun _ _ _ _ _ _ => none
  | k + 1 => fX6_isAtRest_c37b N o1 K2 (fX6_isAtRest_c37 N o1 K2 k)
def fX6_isAtRest_c2b (N : Nat) (o1 : Nat) (K2 : Int → zH → Option (Int × zH)) (l2 : Int) (h : zH) : Option (Int × zH) :=
  if zw (fX1_many o1 1 h) ≤ zw l2 then
    some (1, h)
  else
    zlet (fX10_at 44 l2 h) fun v2 =>
    zb (fX1_portion N o1 44 l2 h) fun v3 =>
    fX6_isAtRest_c37 N o1 K2 N l2 v2 v3 0 0 h
def fX6_isAtRest_c2 (N : Nat) (o1 : Nat) : Nat → Int → zH → Option (Int × zH)
  | 0 => fun _ _ => none
  | k + 1 => fX6_isAtRest_c2b N o1 (fX6_isAtRest_c2 N o1 k)
def fX6_isAtRest (N : Nat) (o1 : Nat) (h : zH) : Option (Int × zH) :=
  fX6_isAtRest_c2 N o1 N 0 h
def fX10_isStake (a0 : Int) : Int :=
  if zw a0 < zw 1 then
    0
  else
    if zw 99 < zw a0 then
      0
    else
      1
def fX10_divisor_c7b (N : Nat) (K7 : Int → Int → Int → Option Int) (l2 : Int) (l3 : Int) (l4 : Int) : Option Int :=
  if zw 198 ≤ zw l4 then
    some l2
  else
    if zw l3 ≤ 0 then
      some l2
    else
      if ¬ zw l3 = 0 then K7 l3 (zrem l2 l3) (l4 + 1) else none
def fX10_divisor_c7 (N : Nat) : Nat → Int → Int → Int → Option Int
  | 0 => fun _ _ _ => none
  | k + 1 => fX10_divisor_c7b N (fX10_divisor_c7 N k)
def fX10_divisor (N : Nat) (a0 : Int) (a1 : Int) : Option Int :=
  fX10_divisor_c7 N N a0 a1 0
def fX10_bribes_c108 (N : Nat) (l4 : Int) (l6 : Int) (s0 : Int) : Option Int :=
  zb (fX10_divisor N l6 s0) fun v1 =>
  if zw 1 ≤ zw v1 then
    if zw l4 = 0 then
      if ¬ zw v1 = 0 then some (zdiv l6 v1) else none
    else
      if zw l4 = zw 2 then
        if ¬ zw v1 = 0 then some (zdiv l6 v1) else none
      else
        if ¬ zw v1 = 0 then some (zdiv s0 v1) else none
  else
    some (-1)
def fX10_bribes_c75 (N : Nat) (l1 : Int) (l2 : Int) (l4 : Int) (l5 : Int) (s0 : Int) : Option Int :=
  if zw 2 ≤ zw l4 then
    if zw l5 = 0 then
      fX10_bribes_c108 N l4 s0 1
    else
      fX10_bribes_c108 N l4 s0 (l1 + l2)
  else
    if zw l5 = 0 then
      fX10_bribes_c108 N l4 s0 1
    else
      fX10_bribes_c108 N l4 s0 l2
def fX10_bribes (N : Nat) (a1 : Int) (a2 : Int) (a3 : Int) (a4 : Int) : Option Int :=
  if zw (fX10_isStake a1) = 0 then
    some (-1)
  else
    if zw (fX10_isStake a2) = 0 then
      some (-1)
    else
      if zw (fX10_isStake a3) = 0 then
        some (-1)
      else
        if zw a4 < 0 then
          some (-1)
        else
          if zw a4 ≤ zw 3 then
            if zw a2 ≤ zw a3 then
              if zw 2 ≤ zw a4 then
                if zw 0 = 0 then
                  fX10_bribes_c75 N a1 a2 a4 0 0
                else
                  fX10_bribes_c75 N a1 a2 a4 0 a1
              else
                if zw 0 = 0 then
                  fX10_bribes_c75 N a1 a2 a4 0 1
                else
                  fX10_bribes_c75 N a1 a2 a4 0 a3
            else
              if zw 2 ≤ zw a4 then
                if zw 1 = 0 then
                  fX10_bribes_c75 N a1 a2 a4 1 0
                else
                  fX10_bribes_c75 N a1 a2 a4 1 a1
              else
                if zw 1 = 0 then
                  fX10_bribes_c75 N a1 a2 a4 1 1
                else
                  fX10_bribes_c75 N a1 a2 a4 1 a3
          else
            some (-1)
def fX7_add (a1 : Int) (a2 : Int) (h : zH) : (Int × zH) :=
  if zw (h 13 0) < zw 12 then
    zlet (fX10_put 46 (h 13 0) a1 h) fun h2 =>
    zlet (fX10_put 47 (h2 13 0) a2 h2) fun h3 =>
    zlet (zs h3 13 0 ((h3 13 0) + 1)) fun h4 =>
    (h4 13 0, h4)
  else
    ((-1), h)
def fX10_see (a1 : Int) (a2 : Int) (h : zH) : (Int × zH) :=
  if zw (fX1_has 2 1 a1 h) = 0 then
    ((-1), h)
  else
    if zw a2 < 0 then
      ((-1), h)
    else
      if zw a2 ≤ zw 24 then
        zlet2 (fX7_add a1 a2 h) fun v5 h4 =>
        (v5, h4)
      else
        ((-1), h)
def fX7_falsehoods_c49b (N : Nat) (o1 : Nat) (K49 : Int → Int → zH → Option (Int × zH)) (l3 : Int) (l4 : Int) (h : zH) : Option (Int × zH) :=
  if zw (h 13 0) ≤ zw l4 then
    some (l3, h)
  else
    zb (fX1_portion N o1 48 (fX10_at 46 l4 h) h) fun v2 =>
    if zw v2 = zw (fX10_at 47 l4 h) then
      K49 (l3 + 0) (l4 + 1) h
    else
      K49 (l3 + 1) (l4 + 1) h
def fX7_falsehoods_c49 (N : Nat) (o1 : Nat) : Nat → Int → Int → zH → Option (Int × zH)
  | 0 => fun _ _ _ => none
  | k + 1 => fX7_falsehoods_c49b N o1 (fX7_falsehoods_c49 N o1 k)
def fX7_falsehoods_c2b (N : Nat) (o1 : Nat) (K2 : Int → Int → zH → Option (Int × zH)) (l2 : Int) (l3 : Int) (h : zH) : Option (Int × zH) :=
  if zw (fX1_many o1 1 h) ≤ zw l3 then
    fX7_falsehoods_c49 N o1 N 0 0 h
  else
    if zw (fX10_isIn l2 l3) = 0 then
      zlet (fX10_put 48 l3 (-1) h) fun h3 =>
      K2 l2 (l3 + 1) h3
    else
      zlet (fX10_put 48 l3 (fX1_item o1 1 l3 0 h) h) fun h4 =>
      K2 l2 (l3 + 1) h4
def fX7_falsehoods_c2 (N : Nat) (o1 : Nat) : Nat → Int → Int → zH → Option (Int × zH)
  | 0 => fun _ _ _ => none
  | k + 1 => fX7_falsehoods_c2b N o1 (fX7_falsehoods_c2 N o1 k)
def fX7_falsehoods (N : Nat) (o1 : Nat) (a2 : Int) (h : zH) : Option (Int × zH) :=
  fX7_falsehoods_c2 N o1 N a2 0 h
def fX10_could_c18b (N : Nat) (K18 : Int → Int → Int → zH → Option (Int × zH)) (l1 : Int) (l2 : Int) (l3 : Int) (h : zH) : Option (Int × zH) :=
  if zw (zshl 1 (fX1_many 2 1 h)) ≤ zw l3 then
    if zw l1 = zw (-1) then
      some (l2, h)
    else
      some ((-1), h)
  else
    z2 (fX7_falsehoods N 2 l3 h) fun v4 h3 =>
    if zw v4 = 0 then
      if zw l2 = zw l1 then
        some (l3, h3)
      else
        K18 l1 (l2 + 1) (l3 + 1) h3
    else
      K18 l1 l2 (l3 + 1) h3
def fX10_could_c18 (N : Nat) : Nat → Int → Int → Int → zH → Option (Int × zH)
  | 0 => fun _ _ _ _ => none
  | k + 1 => fX10_could_c18b N (fX10_could_c18 N k)
def fX10_could (N : Nat) (a1 : Int) (h : zH) : Option (Int × zH) :=
  if zw (fX10_hasHill h) = 0 then
    some ((-1), h)
  else
    if zw (-1) ≤ zw a1 then
      fX10_could_c18 N N a1 0 0 h
    else
      some ((-1), h)
def fX10_sure_c13b (N : Nat) (K13 : Int → Int → zH → Option (Int × zH)) (l1 : Int) (l2 : Int) (h : zH) : Option (Int × zH) :=
  if zw (zshl 1 (fX1_many 2 1 h)) ≤ zw l2 then
    some (l1, h)
  else
    z2 (fX7_falsehoods N 2 l2 h) fun v3 h2 =>
    if zw v3 = 0 then
      K13 (zand l1 l2) (l2 + 1) h2
    else
      K13 l1 (l2 + 1) h2
def fX10_sure_c13 (N : Nat) : Nat → Int → Int → zH → Option (Int × zH)
  | 0 => fun _ _ _ => none
  | k + 1 => fX10_sure_c13b N (fX10_sure_c13 N k)
def fX10_sure (N : Nat) (h : zH) : Option (Int × zH) :=
  if zw (fX10_hasHill h) = 0 then
    some ((-1), h)
  else
    fX10_sure_c13 N N (-1) 0 h
def fX10_wrong_c14b (N : Nat) (K14 : Int → Int → zH → Option (Int × zH)) (l1 : Int) (l2 : Int) (h : zH) : Option (Int × zH) :=
  if zw (zshl 1 (fX1_many 2 1 h)) ≤ zw l2 then
    some (l1, h)
  else
    z2 (fX7_falsehoods N 2 l2 h) fun v3 h2 =>
    zlet (fJ9_min_7cf53 l1 v3) fun v4 =>
    K14 v4 (l2 + 1) h2
def fX10_wrong_c14 (N : Nat) : Nat → Int → Int → zH → Option (Int × zH)
  | 0 => fun _ _ _ => none
  | k + 1 => fX10_wrong_c14b N (fX10_wrong_c14 N k)
def fX10_wrong (N : Nat) (h : zH) : Option (Int × zH) :=
  if zw (fX10_hasHill h) = 0 then
    some ((-1), h)
  else
    fX10_wrong_c14 N N 12 0 h
def fX10_works_c58b (N : Nat) (h : zH) (K37 : Int → Int → Int → Int → Int → Option Int) (K58 : Int → Int → Int → Int → Int → Int → Int → Option Int) (l1 : Int) (l2 : Int) (l3 : Int) (l4 : Int) (l5 : Int) (l6 : Int) (l7 : Int) : Option Int :=
  if zw (l5 + l1) ≤ zw l7 then
    if zw l6 ≤ zw l4 then
      K37 l1 l2 l3 l4 (l5 + 1)
    else
      K37 l1 l2 l5 l6 (l5 + 1)
  else
    zlet (l6 + (fX8_hoursOfLight 7 l7 h)) fun v3 =>
    K58 l1 l2 l3 l4 l5 v3 (l7 + 1)
def fX10_works_c58 (N : Nat) (h : zH) (K37 : Int → Int → Int → Int → Int → Option Int) : Nat → Int → Int → Int → Int → Int → Int → Int → Option Int
  | 0 => fun _ _ _ _ _ _ _ => none
  | k + 1 => fX10_works_c58b N h K37 (fX10_works_c58 N h K37 k)
def fX10_works_c37b (N : Nat) (h : zH) (K37 : Int → Int → Int → Int → Int → Option Int) (l1 : Int) (l2 : Int) (l3 : Int) (l4 : Int) (l5 : Int) : Option Int :=
  if zw (fX8_logLength 7 h) < zw (l5 + l1) then
    if zw l2 = 0 then
      some l3
    else
      some l4
  else
    fX10_works_c58 N h K37 N l1 l2 l3 l4 l5 0 l5
def fX10_works_c37 (N : Nat) (h : zH) : Nat → Int → Int → Int → Int → Int → Option Int
  | 0 => fun _ _ _ _ _ => none
  | k + 1 => fX10_works_c37b N h (fX10_works_c37 N h k)
def fX10_works (N : Nat) (a1 : Int) (a2 : Int) (h : zH) : Option Int :=
  if zw (fX10_hasHill h) = 0 then
    some (-1)
  else
    if zw a1 < zw 1 then
      some (-1)
    else
      if zw 9 < zw a1 then
        some (-1)
      else
        if zw a2 < 0 then
          some (-1)
        else
          if zw a2 ≤ zw 1 then
            fX10_works_c37 N h N a1 a2 (-1) (-1) 0
          else
            some (-1)
def fX10_image (h : zH) : Option (Int × zH) :=
  if zw (fX10_hasHill h) = 0 then
    some ((-1), h)
  else
    zb (fX8_take 9 7 h) fun h2 =>
    zlet (zs h2 0 13 1) fun h3 =>
    some (fX8_hour 7 h3, h3)
def fX10_back (h : zH) : Option (Int × zH) :=
  if zw (h 0 13) = 0 then
    some ((-1), h)
  else
    zb (fX8_take 7 9 h) fun h2 =>
    zlet (fX0_forget h2) fun h3 =>
    some (fX8_hour 7 h3, h3)
def fX10_count (a1 : Int) (h : zH) : Int :=
  if zw a1 = 0 then
    fX1_many 2 1 h
  else
    if zw a1 = 1 then
      fX1_many 2 2 h
    else
      if zw a1 = 2 then
        fX1_many 2 3 h
      else
        if zw a1 = 3 then
          h 5 0
        else
          if zw a1 = 4 then
            h 6 0
          else
            if zw a1 = 5 then
              h 1 1
            else
              if zw a1 = 6 then
                h 5 1
              else
                if zw a1 = 7 then
                  fX8_hour 7 h
                else
                  if zw a1 = 8 then
                    h 0 14
                  else
                    if zw a1 = 9 then
                      h 13 0
                    else
                      if zw a1 = 10 then
                        fX8_logLength 7 h
                      else
                        if zw a1 = 11 then
                          h 10 0
                        else
                          (-1000000)
def fX11_thrown (h : zH) : Int :=
  h 14 0
def fX11_byteOf_c45 (l5 : Int) (s0 : Int) : Int :=
  zand (zshr s0 (24 - (8 * (zrem l5 4)))) 255
def fX11_byteOf (a0 : Int) (a1 : Int) (a2 : Int) (a3 : Int) (a4 : Int) (a5 : Int) : Int :=
  if zw 4 ≤ zw a5 then
    if zw 8 ≤ zw a5 then
      if zw 12 ≤ zw a5 then
        if zw 16 ≤ zw a5 then
          fX11_byteOf_c45 a5 a4
        else
          fX11_byteOf_c45 a5 a3
      else
        fX11_byteOf_c45 a5 a2
    else
      fX11_byteOf_c45 a5 a1
  else
    fX11_byteOf_c45 a5 a0
def fX11_feed_c62b (N : Nat) (K62 : Int → Int → Int → Int → Int → Int → zH → Option (Int × zH)) (l1 : Int) (l2 : Int) (l3 : Int) (l4 : Int) (l5 : Int) (l7 : Int) (h : zH) : Option (Int × zH) :=
  if zw 20 ≤ zw l7 then
    some (h 14 2, h)
  else
    zlet (fX11_byteOf l1 l2 l3 l4 l5 l7) fun v2 =>
    if zw v2 = 0 then
      K62 l1 l2 l3 l4 l5 (l7 + 1) h
    else
      if 0 ≤ zw (h 14 2) ∧ zw (h 14 2) < 240 then
      zlet (zs h 49 (zw (h 14 2)).toNat v2) fun h5 =>
      zlet (zs h5 14 2 ((h5 14 2) + 1)) fun h6 =>
      K62 l1 l2 l3 l4 l5 (l7 + 1) h6 else none
def fX11_feed_c62 (N : Nat) : Nat → Int → Int → Int → Int → Int → Int → zH → Option (Int × zH)
  | 0 => fun _ _ _ _ _ _ _ => none
  | k + 1 => fX11_feed_c62b N (fX11_feed_c62 N k)
def fX11_feed_c6b (N : Nat) (K6 : Int → Int → Int → Int → Int → Int → Int → zH → Option (Int × zH)) (l1 : Int) (l2 : Int) (l3 : Int) (l4 : Int) (l5 : Int) (l6 : Int) (l7 : Int) (h : zH) : Option (Int × zH) :=
  if zw 20 ≤ zw l7 then
    if zw ((h 14 2) + l6) ≤ zw 240 then
      fX11_feed_c62 N N l1 l2 l3 l4 l5 0 h
    else
      some ((-1), h)
  else
    if zw (fX11_byteOf l1 l2 l3 l4 l5 l7) = 0 then
      K6 l1 l2 l3 l4 l5 (l6 + 0) (l7 + 1) h
    else
      K6 l1 l2 l3 l4 l5 (l6 + 1) (l7 + 1) h
def fX11_feed_c6 (N : Nat) : Nat → Int → Int → Int → Int → Int → Int → Int → zH → Option (Int × zH)
  | 0 => fun _ _ _ _ _ _ _ _ => none
  | k + 1 => fX11_feed_c6b N (fX11_feed_c6 N k)
def fX11_feed (N : Nat) (a1 : Int) (a2 : Int) (a3 : Int) (a4 : Int) (a5 : Int) (h : zH) : Option (Int × zH) :=
  fX11_feed_c6 N N a1 a2 a3 a4 a5 0 0 h
def fX11_end (a1 : Int) (h : zH) : (Int × zH) :=
  if zw a1 < 0 then
    (0, h)
  else
    if zw a1 ≤ zw (h 14 2) then
      zlet (zs h 14 2 a1) fun h3 =>
      (1, h3)
    else
      (0, h)
def fX11_usual (a0 : Int) (a1 : Int) : Int :=
  if zw a0 = 100 then
    if zw a1 = 0 then
      0
    else
      if zw a1 = zw 1 then
        24
      else
        1
  else
    if zw a0 = 112 then
      if zw a1 = 0 then
        0
      else
        if zw a1 = zw 1 then
          6
        else
          5
    else
      if zw a0 = 115 then
        if zw a1 = 0 then
          6
        else
          12
      else
        if zw a1 = 0 then
          0
        else
          8
def fX11_here (h : zH) : Option Int :=
  if zw (h 14 2) ≤ zw (h 14 3) then
    some (-1)
  else
    if 0 ≤ zw (h 14 3) ∧ zw (h 14 3) < 240 then
    some (h 49 (zw (h 14 3)).toNat) else none
def fX11_look_c0b (N : Nat) (K0 : zH → Option (Int × zH)) (h : zH) : Option (Int × zH) :=
  zb (fX11_here h) fun v1 =>
  if zw v1 = zw 32 then
    zlet (zs h 14 3 ((h 14 3) + 1)) fun h3 =>
    K0 h3
  else
    zb (fX11_here h) fun v4 =>
    some (v4, h)
def fX11_look_c0 (N : Nat) : Nat → zH → Option (Int × zH)
  | 0 => fun _ => none
  | k + 1 => fX11_look_c0b N (fX11_look_c0 N k)
def fX11_look (N : Nat) (h : zH) : Option (Int × zH) :=
  fX11_look_c0 N N h
def fX11_itemOf (a0 : Int) (a1 : Int) : Int :=
  if zw a0 = 100 then
    if zw a1 = zw 111 then
      0
    else
      if zw a1 = zw 99 then
        1
      else
        if zw a1 = zw 116 then
          2
        else
          if zw a1 = zw 101 then
            3
          else
            (-1)
  else
    if zw a0 = 112 then
      if zw a1 = zw 102 then
        0
      else
        if zw a1 = zw 110 then
          1
        else
          if zw a1 = zw 122 then
            2
          else
            (-1)
    else
      if zw a0 = 115 then
        if zw a1 = zw 97 then
          0
        else
          if zw a1 = zw 108 then
            1
          else
            (-1)
      else
        if zw a1 = zw 100 then
          0
        else
          if zw a1 = zw 110 then
            1
          else
            if zw a1 = zw 109 then
              2
            else
              (-1)
def fX11_has (a0 : Int) (a1 : Int) : Int :=
  if zw (zand (zshr a0 a1) 1) = zw 1 then
    1
  else
    0
def fX11_lowest (a0 : Int) (a1 : Int) : Int :=
  if zw a0 = zw 112 then
    if zw a1 = zw 1 then
      if zw 1 = 0 then
        0
      else
        1
    else
      if zw 0 = 0 then
        0
      else
        1
  else
    if zw a0 = zw 100 then
      if zw a1 = zw 1 then
        if zw 1 = 0 then
          0
        else
          1
      else
        if zw a1 = zw 2 then
          if zw 1 = 0 then
            0
          else
            1
        else
          if zw 0 = 0 then
            0
          else
            1
    else
      if zw 0 = 0 then
        0
      else
        1
def fX11_highest (a0 : Int) (a1 : Int) : Int :=
  if zw a0 = 100 then
    if zw a1 = 0 then
      23
    else
      if zw a1 = zw 1 then
        24
      else
        9
  else
    if zw a0 = 112 then
      if zw a1 = 0 then
        7
      else
        if zw a1 = zw 1 then
          24
        else
          9
    else
      if zw a0 = 115 then
        if zw a1 = 0 then
          23
        else
          24
      else
        if zw a1 = 0 then
          3
        else
          8
def fX11_isDigit (a0 : Int) : Int :=
  if zw a0 < zw 48 then
    0
  else
    if zw 57 < zw a0 then
      0
    else
      1
def fX11_bad (h : zH) : zH :=
  if zw (h 14 4) = zw (-1) then
    zlet (zs h 14 4 (h 14 3)) fun h2 =>
    h2
  else
    zlet (zs h 14 4 (h 14 4)) fun h3 =>
    h3
def fX11_in (a0 : Int) (a1 : Int) (a2 : Int) : Int :=
  if zw a0 < zw a1 then
    0
  else
    if zw a2 < zw a0 then
      0
    else
      1
def fX11_number_c67 (N : Nat) (l1 : Int) (l2 : Int) (l3 : Int) (h : zH) : Option (Int × zH) :=
  zb (fX11_here h) fun v1 =>
  if zw (fX11_isDigit v1) = 0 then
    if zw (fX11_in l3 l1 l2) = 0 then
      zlet (zs h 14 3 ((h 14 3) - 1)) fun h4 =>
      zlet (fX11_bad h4) fun h5 =>
      some (l3, h5)
    else
      some (l3, h)
  else
    zlet (fX11_bad h) fun h6 =>
    some (l3, h6)
def fX11_number (N : Nat) (a1 : Int) (a2 : Int) (h : zH) : Option (Int × zH) :=
  z2 (fX11_look N h) fun v2 h1 =>
  if zw (fX11_isDigit v2) = 0 then
    zlet (fX11_bad h1) fun h4 =>
    some (a1, h4)
  else
    zb (fX11_here h1) fun v5 =>
    zlet (zs h1 14 3 ((h1 14 3) + 1)) fun h6 =>
    zb (fX11_here h6) fun v7 =>
    if zw (fX11_isDigit v7) = 0 then
      fX11_number_c67 N a1 a2 (v5 - 48) h6
    else
      zb (fX11_here h6) fun v9 =>
      zlet (((10 * (v5 - 48)) + v9) - 48) fun v10 =>
      zlet (zs h6 14 3 ((h6 14 3) + 1)) fun h11 =>
      fX11_number_c67 N a1 a2 v10 h11
def fX11_items_c41b (N : Nat) (o2 : Nat) (K41 : Int → Int → Int → Int → zH → Option zH) (l1 : Int) (l3 : Int) (l5 : Int) (l6 : Int) (h : zH) : Option zH :=
  if zw (h 14 4) = zw (-1) then
    if zw l6 = zw (-1) then
      some h
    else
      if zw (fX11_has l5 l6) = 0 then
        zlet (zor l5 (zshl 1 l6)) fun v4 =>
        zlet (zs h 14 3 ((h 14 3) + 1)) fun h5 =>
        z2 (fX11_number N (fX11_lowest l1 l6) (fX11_highest l1 l6) h5) fun v7 h6 =>
        if 0 ≤ zw (l3 + l6) ∧ zw (l3 + l6) < (zln o2 : Int) then
        zlet (zs h6 o2 (zw (l3 + l6)).toNat v7) fun h9 =>
        if zw (h9 14 4) = zw (-1) then
          z2 (fX11_look N h9) fun v12 h11 =>
          zlet (fX11_itemOf l1 v12) fun v13 =>
          K41 l1 l3 v4 v13 h11
        else
          K41 l1 l3 v4 (-1) h9 else none
      else
        some h
  else
    some h
def fX11_items_c41 (N : Nat) (o2 : Nat) : Nat → Int → Int → Int → Int → zH → Option zH
  | 0 => fun _ _ _ _ _ => none
  | k + 1 => fX11_items_c41b N o2 (fX11_items_c41 N o2 k)
def fX11_items_c3b (N : Nat) (o2 : Nat) (K3 : Int → Int → Int → Int → zH → Option zH) (l1 : Int) (l3 : Int) (l4 : Int) (l5 : Int) (h : zH) : Option zH :=
  if zw l4 ≤ zw l5 then
    z2 (fX11_look N h) fun v3 h2 =>
    zlet (fX11_itemOf l1 v3) fun v4 =>
    fX11_items_c41 N o2 N l1 l3 0 v4 h2
  else
    if 0 ≤ zw (l3 + l5) ∧ zw (l3 + l5) < (zln o2 : Int) then
    zlet (zs h o2 (zw (l3 + l5)).toNat (fX11_usual l1 l5)) fun h6 =>
    K3 l1 l3 l4 (l5 + 1) h6 else none
def fX11_items_c3 (N : Nat) (o2 : Nat) : Nat → Int → Int → Int → Int → zH → Option zH
  | 0 => fun _ _ _ _ _ => none
  | k + 1 => fX11_items_c3b N o2 (fX11_items_c3 N o2 k)
def fX11_items (N : Nat) (o2 : Nat) (a1 : Int) (a3 : Int) (a4 : Int) (h : zH) : Option zH :=
  fX11_items_c3 N o2 N a1 a3 a4 0 h
def fX11_isTold (a0 : Int) (a1 : Int) : Int :=
  if zw a0 = zw 8 then
    1
  else
    if zw a1 ≤ zw a0 then
      0
    else
      1
def fX11_isWhole_c121b (N : Nat) (h : zH) (K121 : Int → Int → Option Int) (l1 : Int) (l2 : Int) : Option Int :=
  if zw (h 14 23) ≤ zw l2 then
    if l1 = 0 ∨ l1 = 1 then some l1 else none
  else
    if zw l1 = 0 then
      K121 0 (l2 + 1)
    else
      if 0 ≤ zw ((3 * l2) + 0) ∧ zw ((3 * l2) + 0) < 24 then
      if zw (h 14 22) ≤ zw (h 62 (zw ((3 * l2) + 0)).toNat) then
        K121 0 (l2 + 1)
      else
        if 0 ≤ zw ((3 * l2) + 1) ∧ zw ((3 * l2) + 1) < 24 then
        zlet (fX11_isTold (h 62 (zw ((3 * l2) + 1)).toNat) (h 14 23)) fun v7 =>
        if zw v7 = 0 then
          K121 0 (l2 + 1)
        else
          if 0 ≤ zw ((3 * l2) + 2) ∧ zw ((3 * l2) + 2) < 24 then
          zlet (fX11_isTold (h 62 (zw ((3 * l2) + 2)).toNat) (h 14 23)) fun v10 =>
          if zw v10 = 0 then
            K121 0 (l2 + 1)
          else
            K121 1 (l2 + 1) else none else none else none
def fX11_isWhole_c121 (N : Nat) (h : zH) : Nat → Int → Int → Option Int
  | 0 => fun _ _ => none
  | k + 1 => fX11_isWhole_c121b N h (fX11_isWhole_c121 N h k)
def fX11_isWhole_c78b (N : Nat) (h : zH) (K78 : Int → Int → Option Int) (l1 : Int) (l2 : Int) : Option Int :=
  if zw (h 14 21) ≤ zw l2 then
    fX11_isWhole_c121 N h N l1 0
  else
    if zw l1 = 0 then
      K78 0 (l2 + 1)
    else
      if 0 ≤ zw ((3 * l2) + 0) ∧ zw ((3 * l2) + 0) < 18 then
      if zw (h 14 23) ≤ zw (h 60 (zw ((3 * l2) + 0)).toNat) then
        K78 0 (l2 + 1)
      else
        K78 1 (l2 + 1) else none
def fX11_isWhole_c78 (N : Nat) (h : zH) : Nat → Int → Int → Option Int
  | 0 => fun _ _ => none
  | k + 1 => fX11_isWhole_c78b N h (fX11_isWhole_c78 N h k)
def fX11_isWhole_c29b (N : Nat) (h : zH) (K29 : Int → Int → Option Int) (l1 : Int) (l2 : Int) : Option Int :=
  if zw (h 14 22) ≤ zw l2 then
    fX11_isWhole_c78 N h N l1 0
  else
    if zw l1 = 0 then
      K29 0 (l2 + 1)
    else
      if 0 ≤ zw ((4 * l2) + 0) ∧ zw ((4 * l2) + 0) < 16 then
      if 0 ≤ zw ((4 * l2) + 1) ∧ zw ((4 * l2) + 1) < 16 then
      if zw (h 61 (zw ((4 * l2) + 1)).toNat) ≤ zw (h 61 (zw ((4 * l2) + 0)).toNat) then
        K29 0 (l2 + 1)
      else
        K29 1 (l2 + 1) else none else none
def fX11_isWhole_c29 (N : Nat) (h : zH) : Nat → Int → Int → Option Int
  | 0 => fun _ _ => none
  | k + 1 => fX11_isWhole_c29b N h (fX11_isWhole_c29 N h k)
def fX11_isWhole (N : Nat) (h : zH) : Option Int :=
  if zw (h 14 21) ≤ 0 then
    fX11_isWhole_c29 N h N 0 0
  else
    if zw (h 14 22) ≤ 0 then
      fX11_isWhole_c29 N h N 0 0
    else
      if zw (h 14 23) ≤ 0 then
        fX11_isWhole_c29 N h N 0 0
      else
        fX11_isWhole_c29 N h N 1 0
def fX11_readHill_c271 (N : Nat) (K53 : Int → Int → zH → Option (Int × zH)) (l1 : Int) (h : zH) : Option (Int × zH) :=
  if zw (h 14 4) = zw (-1) then
    z2 (fX11_look N h) fun v3 h2 =>
    if zw v3 = zw 59 then
      if zw 1 = 0 then
        zlet (zs h2 14 3 ((h2 14 3) + 0)) fun h6 =>
        K53 l1 1 h6
      else
        zlet (zs h2 14 3 ((h2 14 3) + 1)) fun h7 =>
        K53 l1 1 h7
    else
      if zw 0 = 0 then
        zlet (zs h2 14 3 ((h2 14 3) + 0)) fun h9 =>
        K53 l1 0 h9
      else
        zlet (zs h2 14 3 ((h2 14 3) + 1)) fun h10 =>
        K53 l1 0 h10
  else
    if zw 0 = 0 then
      zlet (zs h 14 3 ((h 14 3) + 0)) fun h12 =>
      K53 l1 0 h12
    else
      zlet (zs h 14 3 ((h 14 3) + 1)) fun h13 =>
      K53 l1 0 h13
def fX11_readHill_c213 (N : Nat) (K53 : Int → Int → zH → Option (Int × zH)) (l1 : Int) (l3 : Int) (h : zH) : Option (Int × zH) :=
  if zw l3 = zw 114 then
    if zw 8 ≤ zw (h 14 23) then
      zlet (fX11_bad h) fun h3 =>
      fX11_readHill_c271 N K53 l1 h3
    else
      zlet (zs h 14 3 ((h 14 3) + 1)) fun h4 =>
      zb (fX11_items N 62 l3 (3 * (h4 14 23)) 3 h4) fun h5 =>
      zlet (zs h5 14 23 ((h5 14 23) + 1)) fun h6 =>
      fX11_readHill_c271 N K53 l1 h6
  else
    zlet (fX11_bad h) fun h7 =>
    fX11_readHill_c271 N K53 l1 h7
def fX11_readHill_c160 (N : Nat) (K53 : Int → Int → zH → Option (Int × zH)) (l1 : Int) (l3 : Int) (h : zH) : Option (Int × zH) :=
  if zw l3 = zw 100 then
    if zw 4 ≤ zw (h 14 22) then
      fX11_readHill_c213 N K53 l1 l3 h
    else
      zlet (zs h 14 3 ((h 14 3) + 1)) fun h3 =>
      zb (fX11_items N 61 l3 (4 * (h3 14 22)) 4 h3) fun h4 =>
      zlet (zs h4 14 22 ((h4 14 22) + 1)) fun h5 =>
      fX11_readHill_c271 N K53 l1 h5
  else
    fX11_readHill_c213 N K53 l1 l3 h
def fX11_readHill_c106 (N : Nat) (K53 : Int → Int → zH → Option (Int × zH)) (l1 : Int) (l3 : Int) (h : zH) : Option (Int × zH) :=
  if zw l3 = zw 112 then
    if zw 6 ≤ zw (h 14 21) then
      fX11_readHill_c160 N K53 l1 l3 h
    else
      zlet (zs h 14 3 ((h 14 3) + 1)) fun h3 =>
      zb (fX11_items N 60 l3 (3 * (h3 14 21)) 3 h3) fun h4 =>
      zlet (zs h4 14 21 ((h4 14 21) + 1)) fun h5 =>
      fX11_readHill_c271 N K53 l1 h5
  else
    fX11_readHill_c160 N K53 l1 l3 h
def fX11_readHill_c315 (N : Nat) (h : zH) : Option (Int × zH) :=
  if zw (h 14 4) = zw (-1) then
    z2 (fX11_look N h) fun v3 h2 =>
    if zw v3 = zw (-1) then
      zb (fX11_isWhole N h2) fun v5 =>
      if zw v5 = 0 then
        zlet (fX11_bad h2) fun h7 =>
        some (h7 14 4, h7)
      else
        some (h2 14 4, h2)
    else
      zlet (fX11_bad h2) fun h8 =>
      some (h8 14 4, h8)
  else
    some (h 14 4, h)
def fX11_readHill_c53b (N : Nat) (K53 : Int → Int → zH → Option (Int × zH)) (l1 : Int) (l2 : Int) (h : zH) : Option (Int × zH) :=
  if zw l2 = 0 then
    fX11_readHill_c315 N h
  else
    if zw (h 14 4) = zw (-1) then
      z2 (fX11_look N h) fun v4 h3 =>
      if zw v4 = zw 115 then
        if zw l1 = 0 then
          zlet (zs h3 14 3 ((h3 14 3) + 1)) fun h7 =>
          zb (fX11_items N 59 v4 0 2 h7) fun h8 =>
          fX11_readHill_c271 N K53 1 h8
        else
          fX11_readHill_c106 N K53 l1 v4 h3
      else
        fX11_readHill_c106 N K53 l1 v4 h3
    else
      fX11_readHill_c315 N h
def fX11_readHill_c53 (N : Nat) : Nat → Int → Int → zH → Option (Int × zH)
  | 0 => fun _ _ _ => none
  | k + 1 => fX11_readHill_c53b N (fX11_readHill_c53 N k)
def fX11_readHill (N : Nat) (h : zH) : Option (Int × zH) :=
  zlet (zs h 14 3 0) fun h1 =>
  zlet (zs h1 14 4 (-1)) fun h2 =>
  zlet (zs h2 14 21 0) fun h3 =>
  zlet (zs h3 14 22 0) fun h4 =>
  zlet (zs h4 14 23 0) fun h5 =>
  zlet (zs h5 59 0 (fX11_usual 115 0)) fun h6 =>
  zlet (zs h6 59 1 (fX11_usual 115 1)) fun h7 =>
  fX11_readHill_c53 N N 0 1 h7
def fX11_open (a1 : Int) (h : zH) : Option zH :=
  zlet (zs h 14 14 a1) fun h1 =>
  zlet (zs h1 14 3 0) fun h2 =>
  zlet (zs h2 14 4 (-1)) fun h3 =>
  zlet (zs h3 14 5 0) fun h4 =>
  if 0 ≤ zw a1 ∧ zw a1 < 5 then
  zlet (zs h4 52 (zw a1).toNat 0) fun h6 =>
  if 0 ≤ zw a1 ∧ zw a1 < 5 then
  zlet (zs h6 53 (zw a1).toNat 0) fun h8 =>
  some h8 else none else none
def fX11_opens (h : zH) : zH :=
  if zw (h 14 5) = zw 6 then
    zlet (fX11_bad h) fun h2 =>
    zlet (zs h2 14 5 ((h2 14 5) + 1)) fun h3 =>
    zlet (zs h3 14 3 ((h3 14 3) + 1)) fun h4 =>
    h4
  else
    zlet (zs h 14 5 ((h 14 5) + 1)) fun h5 =>
    zlet (zs h5 14 3 ((h5 14 3) + 1)) fun h6 =>
    h6
def fX11_put (a1 : Int) (a2 : Int) (h : zH) : Option zH :=
  if 0 ≤ zw (h 14 14) ∧ zw (h 14 14) < 5 then
  if 0 ≤ zw ((520 * (h 14 14)) + (h 52 (zw (h 14 14)).toNat)) ∧ zw ((520 * (h 14 14)) + (h 52 (zw (h 14 14)).toNat)) < 2600 then
  zlet (zs h 50 (zw ((520 * (h 14 14)) + (h 52 (zw (h 14 14)).toNat))).toNat a1) fun h3 =>
  if 0 ≤ zw (h3 14 14) ∧ zw (h3 14 14) < 5 then
  if 0 ≤ zw ((520 * (h3 14 14)) + (h3 52 (zw (h3 14 14)).toNat)) ∧ zw ((520 * (h3 14 14)) + (h3 52 (zw (h3 14 14)).toNat)) < 2600 then
  zlet (zs h3 51 (zw ((520 * (h3 14 14)) + (h3 52 (zw (h3 14 14)).toNat))).toNat a2) fun h6 =>
  zlet (h6 14 14) fun v7 =>
  if 0 ≤ zw v7 ∧ zw v7 < 5 then
  if 0 ≤ zw v7 ∧ zw v7 < 5 then
  zlet (zs h6 52 (zw v7).toNat ((h6 52 (zw v7).toNat) + 1)) fun h10 =>
  some h10 else none else none else none else none else none else none
def fX11_closes_c20 (N : Nat) (h : zH) : Option zH :=
  zlet (zs h 14 3 ((h 14 3) + 1)) fun h1 =>
  zlet (zs h1 14 5 ((h1 14 5) - 1)) fun h2 =>
  some h2
def fX11_closes (N : Nat) (a1 : Int) (h : zH) : Option zH :=
  if zw (h 14 4) = zw (-1) then
    z2 (fX11_look N h) fun v3 h2 =>
    if zw v3 = zw a1 then
      fX11_closes_c20 N h2
    else
      zlet (fX11_bad h2) fun h5 =>
      fX11_closes_c20 N h5
  else
    fX11_closes_c20 N h
def fX11_plainNumber_c4b (N : Nat) (K4 : Int → Int → zH → Option (Int × zH)) (l1 : Int) (l2 : Int) (h : zH) : Option (Int × zH) :=
  if zw 4 ≤ zw l2 then
    zb (fX11_here h) fun v2 =>
    if zw (fX11_isDigit v2) = 0 then
      some (l1, h)
    else
      zlet (fX11_bad h) fun h4 =>
      some (l1, h4)
  else
    zb (fX11_here h) fun v5 =>
    if zw (fX11_isDigit v5) = 0 then
      zb (fX11_here h) fun v7 =>
      if zw (fX11_isDigit v7) = 0 then
        some (l1, h)
      else
        zlet (fX11_bad h) fun h9 =>
        some (l1, h9)
    else
      zb (fX11_here h) fun v10 =>
      zlet (((10 * l1) + v10) - 48) fun v11 =>
      zlet (zs h 14 3 ((h 14 3) + 1)) fun h12 =>
      K4 v11 (l2 + 1) h12
def fX11_plainNumber_c4 (N : Nat) : Nat → Int → Int → zH → Option (Int × zH)
  | 0 => fun _ _ _ => none
  | k + 1 => fX11_plainNumber_c4b N (fX11_plainNumber_c4 N k)
def fX11_plainNumber (N : Nat) (h : zH) : Option (Int × zH) :=
  fX11_plainNumber_c4 N N 0 0 h
def fX11_letterOf (a0 : Int) : Int :=
  if zw a0 = zw 104 then
    0
  else
    if zw a0 = zw 100 then
      1
    else
      if zw a0 = zw 119 then
        2
      else
        if zw a0 = zw 107 then
          3
        else
          if zw a0 = zw 112 then
            4
          else
            if zw a0 = zw 110 then
              5
            else
              if zw a0 = zw 122 then
                6
              else
                (-1)
def fX11_atom_b (N : Nat) (R_fX11_atom : zH → Option zH) (R_fX11_term : zH → Option zH) (R_fX11_sum : zH → Option zH) (h : zH) : Option zH :=
  z2 (fX11_look N h) fun v2 h1 =>
  if zw (fX11_isDigit v2) = 0 then
    if zw (fX11_letterOf v2) = zw (-1) then
      if zw v2 = zw 91 then
        zlet (fX11_opens h1) fun h6 =>
        if zw (h6 14 4) = zw (-1) then
          zb (R_fX11_sum h6) fun h8 =>
          zb (fX11_closes N 93 h8) fun h9 =>
          some h9
        else
          some h6
      else
        zlet (fX11_bad h1) fun h10 =>
        some h10
    else
      zlet (zs h1 14 3 ((h1 14 3) + 1)) fun h11 =>
      zb (fX11_put 1 (fX11_letterOf v2) h11) fun h12 =>
      some h12
  else
    z2 (fX11_plainNumber N h1) fun v14 h13 =>
    zb (fX11_put 0 v14 h13) fun h15 =>
    some h15
def fX11_term_c33 (N : Nat) (R_fX11_atom : zH → Option zH) (R_fX11_term : zH → Option zH) (R_fX11_sum : zH → Option zH) (K21 : Int → zH → Option zH) (l1 : Int) (h : zH) : Option zH :=
  zlet (zs h 14 3 ((h 14 3) + 1)) fun h1 =>
  zb (R_fX11_atom h1) fun h2 =>
  if zw l1 = zw 42 then
    zb (fX11_put 4 0 h2) fun h4 =>
    if zw (h4 14 4) = zw (-1) then
      z2 (fX11_look N h4) fun v7 h6 =>
      K21 v7 h6
    else
      K21 (-1) h4
  else
    zb (fX11_put 5 0 h2) fun h8 =>
    if zw (h8 14 4) = zw (-1) then
      z2 (fX11_look N h8) fun v11 h10 =>
      K21 v11 h10
    else
      K21 (-1) h8
def fX11_term_c21b (N : Nat) (R_fX11_atom : zH → Option zH) (R_fX11_term : zH → Option zH) (R_fX11_sum : zH → Option zH) (K21 : Int → zH → Option zH) (l1 : Int) (h : zH) : Option zH :=
  if zw l1 = zw 42 then
    fX11_term_c33 N R_fX11_atom R_fX11_term R_fX11_sum K21 l1 h
  else
    if zw l1 = zw 47 then
      fX11_term_c33 N R_fX11_atom R_fX11_term R_fX11_sum K21 l1 h
    else
      some h
def fX11_term_c21 (N : Nat) (R_fX11_atom : zH → Option zH) (R_fX11_term : zH → Option zH) (R_fX11_sum : zH → Option zH) : Nat → Int → zH → Option zH
  | 0 => fun _ _ => none
  | k + 1 => fX11_term_c21b N R_fX11_atom R_fX11_term R_fX11_sum (fX11_term_c21 N R_fX11_atom R_fX11_term R_fX11_sum k)
def fX11_term_b (N : Nat) (R_fX11_atom : zH → Option zH) (R_fX11_term : zH → Option zH) (R_fX11_sum : zH → Option zH) (h : zH) : Option zH :=
  zb (R_fX11_atom h) fun h1 =>
  if zw (h1 14 4) = zw (-1) then
    z2 (fX11_look N h1) fun v4 h3 =>
    fX11_term_c21 N R_fX11_atom R_fX11_term R_fX11_sum N v4 h3
  else
    fX11_term_c21 N R_fX11_atom R_fX11_term R_fX11_sum N (-1) h1
def fX11_sum_c33 (N : Nat) (R_fX11_atom : zH → Option zH) (R_fX11_term : zH → Option zH) (R_fX11_sum : zH → Option zH) (K21 : Int → zH → Option zH) (l1 : Int) (h : zH) : Option zH :=
  zlet (zs h 14 3 ((h 14 3) + 1)) fun h1 =>
  zb (R_fX11_term h1) fun h2 =>
  if zw l1 = zw 43 then
    zb (fX11_put 2 0 h2) fun h4 =>
    if zw (h4 14 4) = zw (-1) then
      z2 (fX11_look N h4) fun v7 h6 =>
      K21 v7 h6
    else
      K21 (-1) h4
  else
    zb (fX11_put 3 0 h2) fun h8 =>
    if zw (h8 14 4) = zw (-1) then
      z2 (fX11_look N h8) fun v11 h10 =>
      K21 v11 h10
    else
      K21 (-1) h8
def fX11_sum_c21b (N : Nat) (R_fX11_atom : zH → Option zH) (R_fX11_term : zH → Option zH) (R_fX11_sum : zH → Option zH) (K21 : Int → zH → Option zH) (l1 : Int) (h : zH) : Option zH :=
  if zw l1 = zw 43 then
    fX11_sum_c33 N R_fX11_atom R_fX11_term R_fX11_sum K21 l1 h
  else
    if zw l1 = zw 45 then
      fX11_sum_c33 N R_fX11_atom R_fX11_term R_fX11_sum K21 l1 h
    else
      some h
def fX11_sum_c21 (N : Nat) (R_fX11_atom : zH → Option zH) (R_fX11_term : zH → Option zH) (R_fX11_sum : zH → Option zH) : Nat → Int → zH → Option zH
  | 0 => fun _ _ => none
  | k + 1 => fX11_sum_c21b N R_fX11_atom R_fX11_term R_fX11_sum (fX11_sum_c21 N R_fX11_atom R_fX11_term R_fX11_sum k)
def fX11_sum_b (N : Nat) (R_fX11_atom : zH → Option zH) (R_fX11_term : zH → Option zH) (R_fX11_sum : zH → Option zH) (h : zH) : Option zH :=
  zb (R_fX11_term h) fun h1 =>
  if zw (h1 14 4) = zw (-1) then
    z2 (fX11_look N h1) fun v4 h3 =>
    fX11_sum_c21 N R_fX11_atom R_fX11_term R_fX11_sum N v4 h3
  else
    fX11_sum_c21 N R_fX11_atom R_fX11_term R_fX11_sum N (-1) h1
def fG_X11_atom (N : Nat) : Nat → (zH → Option zH) × (zH → Option zH) × (zH → Option zH)
  | 0 => ((fun _ => none), (fun _ => none), (fun _ => none))
  | k + 1 => (fX11_atom_b N ((fG_X11_atom N k).1) ((fG_X11_atom N k).2.1) ((fG_X11_atom N k).2.2), fX11_term_b N ((fG_X11_atom N k).1) ((fG_X11_atom N k).2.1) ((fG_X11_atom N k).2.2), fX11_sum_b N ((fG_X11_atom N k).1) ((fG_X11_atom N k).2.1) ((fG_X11_atom N k).2.2))
def fX11_atom (N : Nat) : zH → Option zH := (fG_X11_atom N 60).1
def fX11_term (N : Nat) : zH → Option zH := (fG_X11_atom N 60).2.1
def fX11_sum (N : Nat) : zH → Option zH := (fG_X11_atom N 60).2.2
def fX11_isSign (a0 : Int) : Int :=
  if zw a0 = zw 61 then
    1
  else
    if zw a0 = zw 60 then
      1
    else
      if zw a0 = zw 62 then
        1
      else
        0
def fX11_compare_c16 (N : Nat) (s0 : Int) (h : zH) : Option zH :=
  if zw (fX11_isSign s0) = 0 then
    zlet (fX11_bad h) fun h2 =>
    some h2
  else
    zlet (zs h 14 3 ((h 14 3) + 1)) fun h3 =>
    zb (fX11_sum N h3) fun h4 =>
    if zw s0 = zw 61 then
      zb (fX11_put 6 0 h4) fun h6 =>
      some h6
    else
      if zw s0 = zw 60 then
        zb (fX11_put 7 0 h4) fun h8 =>
        some h8
      else
        zb (fX11_put 8 0 h4) fun h9 =>
        some h9
def fX11_compare (N : Nat) (h : zH) : Option zH :=
  if zw (h 14 4) = zw (-1) then
    z2 (fX11_look N h) fun v3 h2 =>
    fX11_compare_c16 N v3 h2
  else
    fX11_compare_c16 N (-1) h
def fX11_goOnOr_c0b (N : Nat) (R_fX11_goOnOr : zH → Option zH) (R_fX11_goOnAnd : zH → Option zH) (R_fX11_unit : zH → Option zH) (R_fX11_condition : zH → Option zH) (K0 : zH → Option zH) (h : zH) : Option zH :=
  if zw (h 14 4) = zw (-1) then
    z2 (fX11_look N h) fun v3 h2 =>
    if zw v3 = zw 124 then
      zlet (zs h2 14 3 ((h2 14 3) + 1)) fun h5 =>
      zb (R_fX11_unit h5) fun h6 =>
      zb (R_fX11_goOnAnd h6) fun h7 =>
      zb (fX11_put 11 0 h7) fun h8 =>
      K0 h8
    else
      some h2
  else
    some h
def fX11_goOnOr_c0 (N : Nat) (R_fX11_goOnOr : zH → Option zH) (R_fX11_goOnAnd : zH → Option zH) (R_fX11_unit : zH → Option zH) (R_fX11_condition : zH → Option zH) : Nat → zH → Option zH
  | 0 => fun _ => none
  | k + 1 => fX11_goOnOr_c0b N R_fX11_goOnOr R_fX11_goOnAnd R_fX11_unit R_fX11_condition (fX11_goOnOr_c0 N R_fX11_goOnOr R_fX11_goOnAnd R_fX11_unit R_fX11_condition k)
def fX11_goOnOr_b (N : Nat) (R_fX11_goOnOr : zH → Option zH) (R_fX11_goOnAnd : zH → Option zH) (R_fX11_unit : zH → Option zH) (R_fX11_condition : zH → Option zH) (h : zH) : Option zH :=
  fX11_goOnOr_c0 N R_fX11_goOnOr R_fX11_goOnAnd R_fX11_unit R_fX11_condition N h
def fX11_goOnAnd_c0b (N : Nat) (R_fX11_goOnOr : zH → Option zH) (R_fX11_goOnAnd : zH → Option zH) (R_fX11_unit : zH → Option zH) (R_fX11_condition : zH → Option zH) (K0 : zH → Option zH) (h : zH) : Option zH :=
  if zw (h 14 4) = zw (-1) then
    z2 (fX11_look N h) fun v3 h2 =>
    if zw v3 = zw 38 then
      zlet (zs h2 14 3 ((h2 14 3) + 1)) fun h5 =>
      zb (R_fX11_unit h5) fun h6 =>
      zb (fX11_put 10 0 h6) fun h7 =>
      K0 h7
    else
      some h2
  else
    some h
def fX11_goOnAnd_c0 (N : Nat) (R_fX11_goOnOr : zH → Option zH) (R_fX11_goOnAnd : zH → Option zH) (R_fX11_unit : zH → Option zH) (R_fX11_condition : zH → Option zH) : Nat → zH → Option zH
  | 0 => fun _ => none
  | k + 1 => fX11_goOnAnd_c0b N R_fX11_goOnOr R_fX11_goOnAnd R_fX11_unit R_fX11_condition (fX11_goOnAnd_c0 N R_fX11_goOnOr R_fX11_goOnAnd R_fX11_unit R_fX11_condition k)
def fX11_goOnAnd_b (N : Nat) (R_fX11_goOnOr : zH → Option zH) (R_fX11_goOnAnd : zH → Option zH) (R_fX11_unit : zH → Option zH) (R_fX11_condition : zH → Option zH) (h : zH) : Option zH :=
  fX11_goOnAnd_c0 N R_fX11_goOnOr R_fX11_goOnAnd R_fX11_unit R_fX11_condition N h
def fX11_unit_b (N : Nat) (R_fX11_goOnOr : zH → Option zH) (R_fX11_goOnAnd : zH → Option zH) (R_fX11_unit : zH → Option zH) (R_fX11_condition : zH → Option zH) (h : zH) : Option zH :=
  z2 (fX11_look N h) fun v2 h1 =>
  if zw v2 = zw 33 then
    zlet (fX11_opens h1) fun h4 =>
    if zw (h4 14 4) = zw (-1) then
      zb (R_fX11_unit h4) fun h6 =>
      zb (fX11_put 9 0 h6) fun h7 =>
      zlet (zs h7 14 5 ((h7 14 5) - 1)) fun h8 =>
      some h8
    else
      some h4
  else
    if zw v2 = zw 40 then
      zlet (fX11_opens h1) fun h10 =>
      if zw (h10 14 4) = zw (-1) then
        zb (R_fX11_condition h10) fun h12 =>
        zb (fX11_closes N 41 h12) fun h13 =>
        some h13
      else
        some h10
    else
      zb (fX11_sum N h1) fun h14 =>
      if zw (h14 14 4) = zw (-1) then
        zb (fX11_compare N h14) fun h16 =>
        some h16
      else
        some h14
def fX11_condition_b (N : Nat) (R_fX11_goOnOr : zH → Option zH) (R_fX11_goOnAnd : zH → Option zH) (R_fX11_unit : zH → Option zH) (R_fX11_condition : zH → Option zH) (h : zH) : Option zH :=
  zb (R_fX11_unit h) fun h1 =>
  zb (R_fX11_goOnAnd h1) fun h2 =>
  zb (R_fX11_goOnOr h2) fun h3 =>
  some h3
def fG_X11_goOnOr (N : Nat) : Nat → (zH → Option zH) × (zH → Option zH) × (zH → Option zH) × (zH → Option zH)
  | 0 => ((fun _ => none), (fun _ => none), (fun _ => none), (fun _ => none))
  | k + 1 => (fX11_goOnOr_b N ((fG_X11_goOnOr N k).1) ((fG_X11_goOnOr N k).2.1) ((fG_X11_goOnOr N k).2.2.1) ((fG_X11_goOnOr N k).2.2.2), fX11_goOnAnd_b N ((fG_X11_goOnOr N k).1) ((fG_X11_goOnOr N k).2.1) ((fG_X11_goOnOr N k).2.2.1) ((fG_X11_goOnOr N k).2.2.2), fX11_unit_b N ((fG_X11_goOnOr N k).1) ((fG_X11_goOnOr N k).2.1) ((fG_X11_goOnOr N k).2.2.1) ((fG_X11_goOnOr N k).2.2.2), fX11_condition_b N ((fG_X11_goOnOr N k).1) ((fG_X11_goOnOr N k).2.1) ((fG_X11_goOnOr N k).2.2.1) ((fG_X11_goOnOr N k).2.2.2))
def fX11_goOnOr (N : Nat) : zH → Option zH := (fG_X11_goOnOr N 60).1
def fX11_goOnAnd (N : Nat) : zH → Option zH := (fG_X11_goOnOr N 60).2.1
def fX11_unit (N : Nat) : zH → Option zH := (fG_X11_goOnOr N 60).2.2.1
def fX11_condition (N : Nat) : zH → Option zH := (fG_X11_goOnOr N 60).2.2.2
def fX11_clause_c251 (N : Nat) (l1 : Int) (h : zH) : Option zH :=
  if 0 ≤ zw (h 14 14) ∧ zw (h 14 14) < 5 then
  if 0 ≤ zw l1 ∧ zw l1 < 700 then
  zlet (zs h 56 (zw l1).toNat (h 52 (zw (h 14 14)).toNat)) fun h3 =>
  zlet (h3 14 14) fun v4 =>
  if 0 ≤ zw v4 ∧ zw v4 < 5 then
  if 0 ≤ zw v4 ∧ zw v4 < 5 then
  zlet (zs h3 53 (zw v4).toNat ((h3 53 (zw v4).toNat) + 1)) fun h7 =>
  some h7 else none else none else none else none
def fX11_clause_c184 (N : Nat) (l1 : Int) (l2 : Int) (h : zH) : Option zH :=
  if 0 ≤ zw l1 ∧ zw l1 < 700 then
  if 0 ≤ zw l1 ∧ zw l1 < 700 then
  zlet (zs h 55 (zw l1).toNat (h 54 (zw l1).toNat)) fun h3 =>
  if zw l2 = 0 then
    fX11_clause_c251 N l1 h3
  else
    if zw (h3 14 4) = zw (-1) then
      z2 (fX11_look N h3) fun v7 h6 =>
      if zw v7 = zw 63 then
        zlet (zs h6 14 3 ((h6 14 3) + 1)) fun h9 =>
        if 0 ≤ zw (h9 14 14) ∧ zw (h9 14 14) < 5 then
        if 0 ≤ zw l1 ∧ zw l1 < 700 then
        zlet (zs h9 55 (zw l1).toNat (h9 52 (zw (h9 14 14)).toNat)) fun h12 =>
        zb (fX11_sum N h12) fun h13 =>
        fX11_clause_c251 N l1 h13 else none else none
      else
        zlet (fX11_bad h6) fun h14 =>
        some h14
    else
      fX11_clause_c251 N l1 h3 else none else none
def fX11_clause_c128 (N : Nat) (l1 : Int) (s0 : Int) (h : zH) : Option zH :=
  if zw s0 = 0 then
    zb (fX11_sum N h) fun h2 =>
    if zw (h2 14 4) = zw (-1) then
      z2 (fX11_look N h2) fun v5 h4 =>
      if zw (fX11_isSign v5) = 0 then
        if zw 0 = 0 then
          fX11_clause_c184 N l1 0 h4
        else
          zb (fX11_compare N h4) fun h8 =>
          zb (fX11_goOnAnd N h8) fun h9 =>
          zb (fX11_goOnOr N h9) fun h10 =>
          fX11_clause_c184 N l1 0 h10
      else
        if zw 1 = 0 then
          fX11_clause_c184 N l1 1 h4
        else
          zb (fX11_compare N h4) fun h12 =>
          zb (fX11_goOnAnd N h12) fun h13 =>
          zb (fX11_goOnOr N h13) fun h14 =>
          fX11_clause_c184 N l1 1 h14
    else
      if zw 0 = 0 then
        fX11_clause_c184 N l1 0 h2
      else
        zb (fX11_compare N h2) fun h16 =>
        zb (fX11_goOnAnd N h16) fun h17 =>
        zb (fX11_goOnOr N h17) fun h18 =>
        fX11_clause_c184 N l1 0 h18
  else
    zb (fX11_condition N h) fun h19 =>
    fX11_clause_c184 N l1 s0 h19
def fX11_clause_c71 (N : Nat) (l1 : Int) (h : zH) : Option zH :=
  zlet (zs h 14 3 ((h 14 3) + 1)) fun h1 =>
  if zw (h1 14 4) = zw (-1) then
    if 0 ≤ zw (h1 14 14) ∧ zw (h1 14 14) < 5 then
    if 0 ≤ zw l1 ∧ zw l1 < 700 then
    zlet (zs h1 54 (zw l1).toNat (h1 52 (zw (h1 14 14)).toNat)) fun h5 =>
    z2 (fX11_look N h5) fun v7 h6 =>
    if zw v7 = zw 33 then
      fX11_clause_c128 N l1 1 h6
    else
      z2 (fX11_look N h6) fun v10 h9 =>
      if zw v10 = zw 40 then
        fX11_clause_c128 N l1 1 h9
      else
        fX11_clause_c128 N l1 0 h9 else none else none
  else
    some h1
def fX11_clause_c40 (N : Nat) (l1 : Int) (h : zH) : Option zH :=
  zlet (zs h 14 3 ((h 14 3) + 1)) fun h1 =>
  if zw (h1 14 4) = zw (-1) then
    z2 (fX11_look N h1) fun v4 h3 =>
    if zw v4 = zw 58 then
      fX11_clause_c71 N l1 h3
    else
      zlet (fX11_bad h3) fun h6 =>
      fX11_clause_c71 N l1 h6
  else
    fX11_clause_c71 N l1 h1
def fX11_clause (N : Nat) (h : zH) : Option zH :=
  if 0 ≤ zw (h 14 14) ∧ zw (h 14 14) < 5 then
  zlet ((140 * (h 14 14)) + (h 53 (zw (h 14 14)).toNat)) fun v2 =>
  if zw (h 14 4) = zw (-1) then
    z2 (fX11_look N h) fun v5 h4 =>
    if zw v5 = zw 121 then
      fX11_clause_c40 N v2 h4
    else
      zlet (fX11_bad h4) fun h7 =>
      fX11_clause_c40 N v2 h7
  else
    fX11_clause_c40 N v2 h else none
def fX11_atEnd (N : Nat) (h : zH) : Option (Int × zH) :=
  if zw (h 14 4) = zw (-1) then
    z2 (fX11_look N h) fun v3 h2 =>
    if zw v3 = zw (-1) then
      some (h2 14 4, h2)
    else
      zlet (fX11_bad h2) fun h5 =>
      some (h5 14 4, h5)
  else
    some (h 14 4, h)
def fX11_readLaw_c9b (N : Nat) (K9 : zH → Option (Int × zH)) (h : zH) : Option (Int × zH) :=
  if zw (h 14 4) = zw (-1) then
    z2 (fX11_look N h) fun v3 h2 =>
    if zw v3 = zw 59 then
      zlet (zs h2 14 3 ((h2 14 3) + 1)) fun h5 =>
      zb (fX11_clause N h5) fun h6 =>
      K9 h6
    else
      z2 (fX11_atEnd N h2) fun v8 h7 =>
      some (v8, h7)
  else
    z2 (fX11_atEnd N h) fun v10 h9 =>
    some (v10, h9)
def fX11_readLaw_c9 (N : Nat) : Nat → zH → Option (Int × zH)
  | 0 => fun _ => none
  | k + 1 => fX11_readLaw_c9b N (fX11_readLaw_c9 N k)
def fX11_readLaw (N : Nat) (a1 : Int) (h : zH) : Option (Int × zH) :=
  zb (fX11_open a1 h) fun h1 =>
  zb (fX11_clause N h1) fun h2 =>
  fX11_readLaw_c9 N N h2
def fX11_figure (N : Nat) (h : zH) : Option (Int × zH) :=
  if zw (h 14 4) = zw (-1) then
    z2 (fX11_look N h) fun v3 h2 =>
    if zw (fX11_isDigit v3) = 0 then
      zlet (fX11_bad h2) fun h5 =>
      some (0, h5)
    else
      zb (fX11_here h2) fun v6 =>
      zlet (zs h2 14 3 ((h2 14 3) + 1)) fun h7 =>
      some (v6 - 48, h7)
  else
    some (0, h)
def fX11_stepText_c36 (N : Nat) (l1 : Int) (s0 : Int) (h : zH) : Option zH :=
  if zw s0 = zw (-1) then
    zlet (fX11_bad h) fun h2 =>
    some h2
  else
    zlet (zs h 14 3 ((h 14 3) + 1)) fun h3 =>
    if 0 ≤ zw l1 ∧ zw l1 < 240 then
    zlet (zs h3 67 (zw l1).toNat s0) fun h5 =>
    if zw 2 ≤ zw s0 then
      if 0 ≤ zw (l1 + 1) ∧ zw (l1 + 1) < 240 then
      zlet (zs h5 67 (zw (l1 + 1)).toNat (-1)) fun h8 =>
      if zw s0 = 0 then
        z2 (fX11_figure N h8) fun v11 h10 =>
        if 0 ≤ zw (l1 + 2) ∧ zw (l1 + 2) < 240 then
        zlet (zs h10 67 (zw (l1 + 2)).toNat v11) fun h13 =>
        some h13 else none
      else
        if 0 ≤ zw (l1 + 2) ∧ zw (l1 + 2) < 240 then
        zlet (zs h8 67 (zw (l1 + 2)).toNat (-1)) fun h15 =>
        some h15 else none else none
    else
      z2 (fX11_figure N h5) fun v17 h16 =>
      if 0 ≤ zw (l1 + 1) ∧ zw (l1 + 1) < 240 then
      zlet (zs h16 67 (zw (l1 + 1)).toNat v17) fun h19 =>
      if zw s0 = 0 then
        z2 (fX11_figure N h19) fun v22 h21 =>
        if 0 ≤ zw (l1 + 2) ∧ zw (l1 + 2) < 240 then
        zlet (zs h21 67 (zw (l1 + 2)).toNat v22) fun h24 =>
        some h24 else none
      else
        if 0 ≤ zw (l1 + 2) ∧ zw (l1 + 2) < 240 then
        zlet (zs h19 67 (zw (l1 + 2)).toNat (-1)) fun h26 =>
        some h26 else none else none else none
def fX11_stepText (N : Nat) (a1 : Int) (h : zH) : Option zH :=
  z2 (fX11_look N h) fun v2 h1 =>
  if zw v2 = zw 102 then
    fX11_stepText_c36 N a1 0 h1
  else
    if zw v2 = zw 119 then
      fX11_stepText_c36 N a1 1 h1
    else
      if zw v2 = zw 104 then
        fX11_stepText_c36 N a1 2 h1
      else
        fX11_stepText_c36 N a1 (-1) h1
def fX11_readOrders_c90 (N : Nat) (K19 : Int → Int → zH → Option (Int × zH)) (l1 : Int) (h : zH) : Option (Int × zH) :=
  if zw 0 = 0 then
    zlet (zs h 14 3 ((h 14 3) + 0)) fun h2 =>
    K19 l1 0 h2
  else
    zlet (zs h 14 3 ((h 14 3) + 1)) fun h3 =>
    K19 l1 0 h3
def fX11_readOrders_c19b (N : Nat) (K19 : Int → Int → zH → Option (Int × zH)) (l1 : Int) (l2 : Int) (h : zH) : Option (Int × zH) :=
  if zw l2 = 0 then
    if zw (h 14 4) = zw (-1) then
      z2 (fX11_look N h) fun v4 h3 =>
      if zw v4 = zw (-1) then
        some (h3 14 4, h3)
      else
        zlet (fX11_bad h3) fun h6 =>
        some (h6 14 4, h6)
    else
      some (h 14 4, h)
  else
    if zw (h 14 4) = zw (-1) then
      if 0 ≤ zw l1 ∧ zw l1 < 5 then
      zb (fX11_stepText N (3 * ((16 * l1) + (h 68 (zw l1).toNat))) h) fun h9 =>
      if 0 ≤ zw l1 ∧ zw l1 < 5 then
      if 0 ≤ zw l1 ∧ zw l1 < 5 then
      zlet (zs h9 68 (zw l1).toNat ((h9 68 (zw l1).toNat) + 1)) fun h12 =>
      if zw (h12 14 4) = zw (-1) then
        z2 (fX11_look N h12) fun v15 h14 =>
        if zw v15 = zw 59 then
          if 0 ≤ zw l1 ∧ zw l1 < 5 then
          if zw 16 ≤ zw (h14 68 (zw l1).toNat) then
            fX11_readOrders_c90 N K19 l1 h14
          else
            if zw 1 = 0 then
              zlet (zs h14 14 3 ((h14 14 3) + 0)) fun h20 =>
              K19 l1 1 h20
            else
              zlet (zs h14 14 3 ((h14 14 3) + 1)) fun h21 =>
              K19 l1 1 h21 else none
        else
          fX11_readOrders_c90 N K19 l1 h14
      else
        fX11_readOrders_c90 N K19 l1 h12 else none else none else none
    else
      if zw (h 14 4) = zw (-1) then
        z2 (fX11_look N h) fun v24 h23 =>
        if zw v24 = zw (-1) then
          some (h23 14 4, h23)
        else
          zlet (fX11_bad h23) fun h26 =>
          some (h26 14 4, h26)
      else
        some (h 14 4, h)
def fX11_readOrders_c19 (N : Nat) : Nat → Int → Int → zH → Option (Int × zH)
  | 0 => fun _ _ _ => none
  | k + 1 => fX11_readOrders_c19b N (fX11_readOrders_c19 N k)
def fX11_readOrders (N : Nat) (a1 : Int) (h : zH) : Option (Int × zH) :=
  zlet (zs h 14 3 0) fun h1 =>
  zlet (zs h1 14 4 (-1)) fun h2 =>
  if 0 ≤ zw a1 ∧ zw a1 < 5 then
  zlet (zs h2 68 (zw a1).toNat 0) fun h4 =>
  fX11_readOrders_c19 N N a1 1 h4 else none
def fX11_fault (N : Nat) (a1 : Int) (h : zH) : Option (Int × zH) :=
  if zw a1 = 0 then
    z2 (fX11_readHill N h) fun v3 h2 =>
    some (v3, h2)
  else
    if zw a1 = zw 1 then
      z2 (fX11_readLaw N 4 h) fun v6 h5 =>
      some (v6, h5)
    else
      if zw a1 = zw 2 then
        z2 (fX11_readOrders N 4 h) fun v9 h8 =>
        some (v9, h8)
      else
        some ((-2), h)
def fX11_put_ (a1 : Int) (a2 : Int) (a3 : Int) (h : zH) : Option zH :=
  if 0 ≤ zw ((7 * a1) + a2) ∧ zw ((7 * a1) + a2) < 165 then
  zlet (zs h 69 (zw ((7 * a1) + a2)).toNat a3) fun h2 =>
  some h2 else none
def fX11_takeHill_c151b (N : Nat) (K151 : Int → zH → Option (Int × zH)) (l1 : Int) (h : zH) : Option (Int × zH) :=
  if zw (h 14 28) ≤ zw l1 then
    zlet (zs h 14 46 0) fun h2 =>
    zlet (zs h2 14 38 0) fun h3 =>
    zlet (zs h3 14 49 0) fun h4 =>
    some (h4 14 28, h4)
  else
    zb (fX11_put_ l1 1 (-1) h) fun h5 =>
    K151 (l1 + 1) h5
def fX11_takeHill_c151 (N : Nat) : Nat → Int → zH → Option (Int × zH)
  | 0 => fun _ _ => none
  | k + 1 => fX11_takeHill_c151b N (fX11_takeHill_c151 N k)
def fX11_takeHill_c129b (N : Nat) (K129 : Int → zH → Option (Int × zH)) (l1 : Int) (h : zH) : Option (Int × zH) :=
  if zw 165 ≤ zw l1 then
    fX11_takeHill_c151 N N 0 h
  else
    if 0 ≤ zw l1 ∧ zw l1 < 165 then
    zlet (zs h 69 (zw l1).toNat 0) fun h3 =>
    K129 (l1 + 1) h3 else none
def fX11_takeHill_c129 (N : Nat) : Nat → Int → zH → Option (Int × zH)
  | 0 => fun _ _ => none
  | k + 1 => fX11_takeHill_c129b N (fX11_takeHill_c129 N k)
def fX11_takeHill_c103b (N : Nat) (K103 : Int → zH → Option (Int × zH)) (l1 : Int) (h : zH) : Option (Int × zH) :=
  if zw 24 ≤ zw l1 then
    fX11_takeHill_c129 N N 0 h
  else
    if 0 ≤ zw l1 ∧ zw l1 < 24 then
    if 0 ≤ zw l1 ∧ zw l1 < 24 then
    zlet (zs h 66 (zw l1).toNat (h 62 (zw l1).toNat)) fun h4 =>
    K103 (l1 + 1) h4 else none else none
def fX11_takeHill_c103 (N : Nat) : Nat → Int → zH → Option (Int × zH)
  | 0 => fun _ _ => none
  | k + 1 => fX11_takeHill_c103b N (fX11_takeHill_c103 N k)
def fX11_takeHill_c77b (N : Nat) (K77 : Int → zH → Option (Int × zH)) (l1 : Int) (h : zH) : Option (Int × zH) :=
  if zw 16 ≤ zw l1 then
    fX11_takeHill_c103 N N 0 h
  else
    if 0 ≤ zw l1 ∧ zw l1 < 16 then
    if 0 ≤ zw l1 ∧ zw l1 < 16 then
    zlet (zs h 65 (zw l1).toNat (h 61 (zw l1).toNat)) fun h4 =>
    K77 (l1 + 1) h4 else none else none
def fX11_takeHill_c77 (N : Nat) : Nat → Int → zH → Option (Int × zH)
  | 0 => fun _ _ => none
  | k + 1 => fX11_takeHill_c77b N (fX11_takeHill_c77 N k)
def fX11_takeHill_c51b (N : Nat) (K51 : Int → zH → Option (Int × zH)) (l1 : Int) (h : zH) : Option (Int × zH) :=
  if zw 18 ≤ zw l1 then
    fX11_takeHill_c77 N N 0 h
  else
    if 0 ≤ zw l1 ∧ zw l1 < 18 then
    if 0 ≤ zw l1 ∧ zw l1 < 18 then
    zlet (zs h 64 (zw l1).toNat (h 60 (zw l1).toNat)) fun h4 =>
    K51 (l1 + 1) h4 else none else none
def fX11_takeHill_c51 (N : Nat) : Nat → Int → zH → Option (Int × zH)
  | 0 => fun _ _ => none
  | k + 1 => fX11_takeHill_c51b N (fX11_takeHill_c51 N k)
def fX11_takeHill_c26b (N : Nat) (K26 : Int → zH → Option (Int × zH)) (l1 : Int) (h : zH) : Option (Int × zH) :=
  if zw 2 ≤ zw l1 then
    fX11_takeHill_c51 N N 0 h
  else
    if 0 ≤ zw l1 ∧ zw l1 < 2 then
    if 0 ≤ zw l1 ∧ zw l1 < 2 then
    zlet (zs h 63 (zw l1).toNat (h 59 (zw l1).toNat)) fun h4 =>
    K26 (l1 + 1) h4 else none else none
def fX11_takeHill_c26 (N : Nat) : Nat → Int → zH → Option (Int × zH)
  | 0 => fun _ _ => none
  | k + 1 => fX11_takeHill_c26b N (fX11_takeHill_c26 N k)
def fX11_takeHill (N : Nat) (h : zH) : Option (Int × zH) :=
  zlet (zs h 14 28 (h 14 21)) fun h1 =>
  zlet (zs h1 14 29 (h1 14 22)) fun h2 =>
  zlet (zs h2 14 30 (h2 14 23)) fun h3 =>
  fX11_takeHill_c26 N N 0 h3
def fX11_text_c69 (N : Nat) (l1 : Int) (h : zH) : Option (Int × zH) :=
  if zw l1 = zw 2 then
    if zw 4 ≤ zw (h 14 33) then
      some ((-1), h)
    else
      z2 (fX11_readOrders N (h 14 33) h) fun v4 h3 =>
      if zw v4 = zw (-1) then
        zlet (zs h3 14 2 0) fun h6 =>
        zlet (zs h6 14 33 ((h6 14 33) + 1)) fun h7 =>
        some ((h7 14 33) - 1, h7)
      else
        some ((-1), h3)
  else
    some ((-1), h)
def fX11_text_c22 (N : Nat) (l1 : Int) (h : zH) : Option (Int × zH) :=
  if zw l1 = zw 1 then
    if zw 4 ≤ zw (h 14 13) then
      fX11_text_c69 N l1 h
    else
      z2 (fX11_readLaw N (h 14 13) h) fun v4 h3 =>
      if zw v4 = zw (-1) then
        zlet (zs h3 14 2 0) fun h6 =>
        zlet (zs h6 14 13 ((h6 14 13) + 1)) fun h7 =>
        some ((h7 14 13) - 1, h7)
      else
        fX11_text_c69 N l1 h3
  else
    fX11_text_c69 N l1 h
def fX11_text (N : Nat) (a1 : Int) (h : zH) : Option (Int × zH) :=
  if zw a1 = 0 then
    z2 (fX11_readHill N h) fun v3 h2 =>
    if zw v3 = zw (-1) then
      zlet (zs h2 14 2 0) fun h5 =>
      z2 (fX11_takeHill N h5) fun v7 h6 =>
      some (v7, h6)
    else
      fX11_text_c22 N a1 h2
  else
    fX11_text_c22 N a1 h
def fX11_sun (a1 : Int) (h : zH) : Option Int :=
  if zw (h 14 28) ≤ 0 then
    some (-1)
  else
    if zw (fX11_in a1 0 1) = 0 then
      some (-1)
    else
      if 0 ≤ zw a1 ∧ zw a1 < 2 then
      some (h 63 (zw a1).toNat) else none
def fX11_isParish (a1 : Int) (h : zH) : Int :=
  fX11_in a1 0 ((h 14 28) - 1)
def fX11_of (a1 : Int) (a2 : Int) (h : zH) : Option Int :=
  if 0 ≤ zw ((7 * a1) + a2) ∧ zw ((7 * a1) + a2) < 165 then
  some (h 69 (zw ((7 * a1) + a2)).toNat) else none
def fX11_parish_c24 (l1 : Int) (l2 : Int) (s0 : Int) (h : zH) : Option (Int × zH) :=
  zlet (zs h 14 0 s0) fun h1 =>
  if zw (h1 14 0) = zw 1 then
    some (0, h1)
  else
    if zw l2 = 0 then
      if 0 ≤ zw ((3 * l1) + l2) ∧ zw ((3 * l1) + l2) < 18 then
      some (h1 64 (zw ((3 * l1) + l2)).toNat, h1) else none
    else
      if zw l2 = 1 then
        if 0 ≤ zw ((3 * l1) + l2) ∧ zw ((3 * l1) + l2) < 18 then
        some (h1 64 (zw ((3 * l1) + l2)).toNat, h1) else none
      else
        if zw l2 = 2 then
          if 0 ≤ zw ((3 * l1) + l2) ∧ zw ((3 * l1) + l2) < 18 then
          some (h1 64 (zw ((3 * l1) + l2)).toNat, h1) else none
        else
          if zw l2 = 3 then
            zb (fX11_of l1 0 h1) fun v10 =>
            some (v10, h1)
          else
            if zw l2 = 4 then
              zb (fX11_of l1 1 h1) fun v12 =>
              some (v12, h1)
            else
              if zw l2 = 5 then
                zb (fX11_of l1 3 h1) fun v14 =>
                some (v14, h1)
              else
                if zw l2 = 6 then
                  zb (fX11_of l1 4 h1) fun v16 =>
                  some (v16, h1)
                else
                  if zw l2 = 7 then
                    zb (fX11_of l1 5 h1) fun v18 =>
                    some (v18, h1)
                  else
                    zb (fX11_of l1 6 h1) fun v19 =>
                    some (v19, h1)
def fX11_parish (a1 : Int) (a2 : Int) (h : zH) : Option (Int × zH) :=
  if zw (fX11_isParish a1 h) = 0 then
    fX11_parish_c24 a1 a2 1 h
  else
    if zw (fX11_in a2 0 8) = 0 then
      fX11_parish_c24 a1 a2 1 h
    else
      fX11_parish_c24 a1 a2 0 h
def fX11_deskOf (a1 : Int) (h : zH) : Option Int :=
  if 0 ≤ zw ((3 * a1) + 0) ∧ zw ((3 * a1) + 0) < 24 then
  some (h 66 (zw ((3 * a1) + 0)).toNat) else none
def fX11_isAt (a1 : Int) (a2 : Int) (h : zH) : Option Int :=
  zb (fX11_of a1 1 h) fun v1 =>
  if zw v1 = zw (-1) then
    some 0
  else
    zb (fX11_of a1 1 h) fun v3 =>
    zb (fX11_deskOf v3 h) fun v4 =>
    if zw v4 = zw a2 then
      some 1
    else
      some 0
def fX11_backlog_c4b (N : Nat) (h : zH) (K4 : Int → Int → Int → Option Int) (l1 : Int) (l2 : Int) (l3 : Int) : Option Int :=
  if zw (h 14 28) ≤ zw l3 then
    some l2
  else
    zb (fX11_isAt l3 l1 h) fun v2 =>
    if zw v2 = 0 then
      K4 l1 (l2 + 0) (l3 + 1)
    else
      K4 l1 (l2 + 1) (l3 + 1)
def fX11_backlog_c4 (N : Nat) (h : zH) : Nat → Int → Int → Int → Option Int
  | 0 => fun _ _ _ => none
  | k + 1 => fX11_backlog_c4b N h (fX11_backlog_c4 N h k)
def fX11_backlog (N : Nat) (a1 : Int) (h : zH) : Option Int :=
  fX11_backlog_c4 N h N a1 0 0
def fX11_firstAt_c4b (N : Nat) (h : zH) (K4 : Int → Int → Int → Option Int) (l1 : Int) (l2 : Int) (l3 : Int) : Option Int :=
  if zw (h 14 28) ≤ zw l3 then
    some l2
  else
    zb (fX11_isAt l3 l1 h) fun v2 =>
    if zw v2 = 0 then
      K4 l1 l2 (l3 + 1)
    else
      if zw l2 = zw (-1) then
        K4 l1 l3 (l3 + 1)
      else
        zb (fX11_of l3 2 h) fun v5 =>
        zb (fX11_of l2 2 h) fun v6 =>
        if zw v6 ≤ zw v5 then
          K4 l1 l2 (l3 + 1)
        else
          K4 l1 l3 (l3 + 1)
def fX11_firstAt_c4 (N : Nat) (h : zH) : Nat → Int → Int → Int → Option Int
  | 0 => fun _ _ _ => none
  | k + 1 => fX11_firstAt_c4b N h (fX11_firstAt_c4 N h k)
def fX11_firstAt (N : Nat) (a1 : Int) (h : zH) : Option Int :=
  fX11_firstAt_c4 N h N a1 (-1) 0
def fX11_time (h : zH) : Int :=
  zrem (h 69 42) 24
def fX11_isOpen (a1 : Int) (a2 : Int) (h : zH) : Option Int :=
  if 0 ≤ zw ((4 * a1) + 0) ∧ zw ((4 * a1) + 0) < 16 then
  if zw a2 < zw (h 65 (zw ((4 * a1) + 0)).toNat) then
    some 0
  else
    if 0 ≤ zw ((4 * a1) + 1) ∧ zw ((4 * a1) + 1) < 16 then
    if zw (h 65 (zw ((4 * a1) + 1)).toNat) ≤ zw a2 then
      some 0
    else
      some 1 else none else none
def fX11_desk (N : Nat) (a1 : Int) (a2 : Int) (h : zH) : Option Int :=
  if zw (fX11_in a1 0 ((h 14 29) - 1)) = 0 then
    some (-1)
  else
    if zw (fX11_in a2 0 6) = 0 then
      some (-1)
    else
      if zw 4 ≤ zw a2 then
        if zw a2 = zw 4 then
          zb (fX11_backlog N a1 h) fun v5 =>
          some v5
        else
          if zw a2 = zw 5 then
            zb (fX11_firstAt N a1 h) fun v7 =>
            some v7
          else
            zb (fX11_isOpen a1 (fX11_time h) h) fun v8 =>
            if zw v8 = 0 then
              some 0
            else
              some 1
      else
        if 0 ≤ zw ((4 * a1) + a2) ∧ zw ((4 * a1) + a2) < 16 then
        some (h 65 (zw ((4 * a1) + a2)).toNat) else none
def fX11_isPaper (a1 : Int) (h : zH) : Int :=
  fX11_in a1 0 ((h 14 30) - 1)
def fX11_paper (a1 : Int) (a2 : Int) (h : zH) : Option Int :=
  if zw (fX11_isPaper a1 h) = 0 then
    some (-1)
  else
    if zw (fX11_in a2 0 2) = 0 then
      some (-1)
    else
      if 0 ≤ zw ((3 * a1) + a2) ∧ zw ((3 * a1) + a2) < 24 then
      zlet (h 66 (zw ((3 * a1) + a2)).toNat) fun v4 =>
      if zw a2 ≤ 0 then
        some v4
      else
        if zw v4 = zw 8 then
          some (-1)
        else
          some v4 else none
def fX11_rule (a1 : Int) (h : zH) : (Int × zH) :=
  if zw (fX11_in a1 (-1) ((h 14 13) - 1)) = 0 then
    (0, h)
  else
    zlet (zs h 14 35 a1) fun h2 =>
    (1, h2)
def fX11_eclipse (a1 : Int) (h : zH) : (Int × zH) :=
  if zw (fX11_in a1 0 99) = 0 then
    (0, h)
  else
    if zw a1 = zw (h 14 36) then
      (0, h)
    else
      zlet (zs h 14 36 a1) fun h3 =>
      (1, h3)
def fX11_wants_c4b (N : Nat) (h : zH) (K4 : Int → Int → Int → Option Int) (l1 : Int) (l2 : Int) (l3 : Int) : Option Int :=
  if zw 2 < zw l3 then
    some l2
  else
    if 0 ≤ zw ((3 * l1) + l3) ∧ zw ((3 * l1) + l3) < 24 then
    if zw (h 66 (zw ((3 * l1) + l3)).toNat) = zw 8 then
      K4 l1 (zor l2 0) (l3 + 1)
    else
      if 0 ≤ zw ((3 * l1) + l3) ∧ zw ((3 * l1) + l3) < 24 then
      zlet (zor l2 (zshl 1 (h 66 (zw ((3 * l1) + l3)).toNat))) fun v5 =>
      K4 l1 v5 (l3 + 1) else none else none
def fX11_wants_c4 (N : Nat) (h : zH) : Nat → Int → Int → Int → Option Int
  | 0 => fun _ _ _ => none
  | k + 1 => fX11_wants_c4b N h (fX11_wants_c4 N h k)
def fX11_wants (N : Nat) (a1 : Int) (h : zH) : Option Int :=
  fX11_wants_c4 N h N a1 0 1
def fX11_canFile (N : Nat) (a1 : Int) (a2 : Int) (h : zH) : Option Int :=
  if zw (fX11_isParish a1 h) = 0 then
    some 0
  else
    if zw (fX11_isPaper a2 h) = 0 then
      some 0
    else
      zb (fX11_of a1 1 h) fun v3 =>
      if zw v3 = zw (-1) then
        zb (fX11_of a1 0 h) fun v5 =>
        if zw (fX11_has v5 a2) = 0 then
          zb (fX11_wants N a2 h) fun v7 =>
          zb (fX11_of a1 0 h) fun v8 =>
          if zw (zand v7 (zxor v8 (-1))) = 0 then
            some 1
          else
            some 0
        else
          some 0
      else
        some 0
def fX11_keep_c54b (N : Nat) (K54 : Int → zH → Option zH) (l1 : Int) (h : zH) : Option zH :=
  if zw 165 ≤ zw l1 then
    zlet (zs h 14 38 ((h 14 38) + 1)) fun h2 =>
    some h2
  else
    if 0 ≤ zw l1 ∧ zw l1 < 165 then
    if 0 ≤ zw ((165 * (h 14 38)) + l1) ∧ zw ((165 * (h 14 38)) + l1) < 6600 then
    zlet (zs h 70 (zw ((165 * (h 14 38)) + l1)).toNat (h 69 (zw l1).toNat)) fun h5 =>
    K54 (l1 + 1) h5 else none else none
def fX11_keep_c54 (N : Nat) : Nat → Int → zH → Option zH
  | 0 => fun _ _ => none
  | k + 1 => fX11_keep_c54b N (fX11_keep_c54 N k)
def fX11_keep_c13b (N : Nat) (K13 : Int → zH → Option zH) (l1 : Int) (h : zH) : Option zH :=
  if zw 6600 ≤ zw l1 then
    zlet (zs h 14 38 ((h 14 38) - 1)) fun h2 =>
    fX11_keep_c54 N N 0 h2
  else
    if 0 ≤ zw l1 ∧ zw l1 < 6600 then
    if 0 ≤ zw (l1 - 165) ∧ zw (l1 - 165) < 6600 then
    zlet (zs h 70 (zw (l1 - 165)).toNat (h 70 (zw l1).toNat)) fun h5 =>
    K13 (l1 + 1) h5 else none else none
def fX11_keep_c13 (N : Nat) : Nat → Int → zH → Option zH
  | 0 => fun _ _ => none
  | k + 1 => fX11_keep_c13b N (fX11_keep_c13 N k)
def fX11_keep (N : Nat) (h : zH) : Option zH :=
  if zw (h 14 38) = zw 40 then
    fX11_keep_c13 N N 165 h
  else
    fX11_keep_c54 N N 0 h
def fX11_fileNow (a1 : Int) (a2 : Int) (h : zH) : Option zH :=
  zb (fX11_put_ a1 1 a2 h) fun h1 =>
  zb (fX11_put_ a1 3 0 h1) fun h2 =>
  zb (fX11_put_ a1 2 (h2 69 43) h2) fun h3 =>
  zlet (zs h3 69 43 ((h3 69 43) + 1)) fun h4 =>
  some h4
def fX11_file (N : Nat) (a1 : Int) (a2 : Int) (h : zH) : Option (Int × zH) :=
  zb (fX11_canFile N a1 a2 h) fun v1 =>
  if zw v1 = 0 then
    some ((-1), h)
  else
    zb (fX11_keep N h) fun h3 =>
    zb (fX11_fileNow a1 a2 h3) fun h4 =>
    zb (fX11_deskOf a2 h4) fun v5 =>
    zb (fX11_backlog N v5 h4) fun v6 =>
    some (v6, h4)
def fX11_canWithdraw (a1 : Int) (h : zH) : Option Int :=
  if zw (fX11_isParish a1 h) = 0 then
    some 0
  else
    zb (fX11_of a1 1 h) fun v2 =>
    if zw v2 = zw (-1) then
      some 0
    else
      some 1
def fX11_goAway (a1 : Int) (h : zH) : Option zH :=
  zb (fX11_put_ a1 1 (-1) h) fun h1 =>
  zb (fX11_put_ a1 3 0 h1) fun h2 =>
  zb (fX11_put_ a1 2 0 h2) fun h3 =>
  some h3
def fX11_withdraw (N : Nat) (a1 : Int) (h : zH) : Option (Int × zH) :=
  zb (fX11_canWithdraw a1 h) fun v1 =>
  if zw v1 = 0 then
    some ((-1), h)
  else
    zb (fX11_keep N h) fun h3 =>
    zb (fX11_of a1 1 h3) fun v4 =>
    zb (fX11_goAway a1 h3) fun h5 =>
    some (v4, h5)
def fX11_areHours (a1 : Int) (a2 : Int) (h : zH) : Int :=
  if zw (h 14 28) ≤ 0 then
    0
  else
    if zw (fX11_in a1 1 a2) = 0 then
      0
    else
      if zw 9999 < zw ((h 69 42) + a1) then
        0
      else
        1
def fX11_isDawn (h : zH) : Int :=
  if zw (fX11_time h) = zw (h 63 0) then
    1
  else
    0
def fX11_form (a1 : Int) (h : zH) : Option Int :=
  if 0 ≤ zw ((3 * a1) + 0) ∧ zw ((3 * a1) + 0) < 18 then
  some (h 64 (zw ((3 * a1) + 0)).toNat) else none
def fX11_shareOf (a1 : Int) (a2 : Int) (a3 : Int) (h : zH) : Option Int :=
  if ¬ zw a2 = 0 then if ¬ zw a2 = 0 then if zw (zrem (h 63 1) a2) ≤ zw a3 then
    zlet ((zdiv (h 63 1) a2) + 0) fun v4 =>
    if 0 ≤ zw ((3 * a1) + 1) ∧ zw ((3 * a1) + 1) < 18 then
    zlet (fJ9_min_7cf53 v4 (h 64 (zw ((3 * a1) + 1)).toNat)) fun v6 =>
    some v6 else none
  else
    zlet ((zdiv (h 63 1) a2) + 1) fun v7 =>
    if 0 ≤ zw ((3 * a1) + 1) ∧ zw ((3 * a1) + 1) < 18 then
    zlet (fJ9_min_7cf53 v7 (h 64 (zw ((3 * a1) + 1)).toNat)) fun v9 =>
    some v9 else none else none else none
def fX11_hoursBy_c68 (N : Nat) (h : zH) (K18 : Int → Int → Int → Int → Int → Option Int) (l1 : Int) (l2 : Int) (l4 : Int) (l5 : Int) (l6 : Int) (s0 : Int) (s1 : Int) : Option Int :=
  if zw l6 = 0 then
    K18 l1 l2 (s1 + s0) (l4 + 0) (l5 + 1)
  else
    if zw l1 ≤ zw l5 then
      K18 l1 l2 (s1 + s0) (l4 + 0) (l5 + 1)
    else
      K18 l1 l2 (s1 + s0) (l4 + 1) (l5 + 1)
def fX11_hoursBy_c18b (N : Nat) (h : zH) (K18 : Int → Int → Int → Int → Int → Option Int) (l1 : Int) (l2 : Int) (l3 : Int) (l4 : Int) (l5 : Int) : Option Int :=
  if zw (h 14 28) ≤ zw l5 then
    zb (fX11_shareOf l1 l3 l4 h) fun v2 =>
    some v2
  else
    if zw (fX11_has l2 l5) = 0 then
      if zw 0 = 0 then
        fX11_hoursBy_c68 N h K18 l1 l2 l4 l5 0 0 l3
      else
        fX11_hoursBy_c68 N h K18 l1 l2 l4 l5 0 1 l3
    else
      zb (fX11_form l5 h) fun v5 =>
      zb (fX11_form l1 h) fun v6 =>
      if zw v5 = zw v6 then
        if zw 1 = 0 then
          fX11_hoursBy_c68 N h K18 l1 l2 l4 l5 1 0 l3
        else
          fX11_hoursBy_c68 N h K18 l1 l2 l4 l5 1 1 l3
      else
        if zw 0 = 0 then
          fX11_hoursBy_c68 N h K18 l1 l2 l4 l5 0 0 l3
        else
          fX11_hoursBy_c68 N h K18 l1 l2 l4 l5 0 1 l3
def fX11_hoursBy_c18 (N : Nat) (h : zH) : Nat → Int → Int → Int → Int → Int → Option Int
  | 0 => fun _ _ _ _ _ => none
  | k + 1 => fX11_hoursBy_c18b N h (fX11_hoursBy_c18 N h k)
def fX11_hoursBy (N : Nat) (a1 : Int) (a2 : Int) (h : zH) : Option Int :=
  if zw (fX11_has a2 a1) = 0 then
    some 0
  else
    fX11_hoursBy_c18 N h N a1 a2 0 0 0
def fX11_note_c57 (N : Nat) (l1 : Int) (l2 : Int) (h : zH) : Option zH :=
  if 0 ≤ zw (45 + (2 * (h 69 44))) ∧ zw (45 + (2 * (h 69 44))) < 165 then
  zlet (zs h 69 (zw (45 + (2 * (h 69 44)))).toNat l1) fun h2 =>
  if 0 ≤ zw ((45 + (2 * (h2 69 44))) + 1) ∧ zw ((45 + (2 * (h2 69 44))) + 1) < 165 then
  zlet (zs h2 69 (zw ((45 + (2 * (h2 69 44))) + 1)).toNat l2) fun h4 =>
  zlet (zs h4 69 44 ((h4 69 44) + 1)) fun h5 =>
  some h5 else none else none
def fX11_note_c14b (N : Nat) (K14 : Int → Int → Int → zH → Option zH) (l1 : Int) (l2 : Int) (l3 : Int) (h : zH) : Option zH :=
  if zw 120 ≤ zw l3 then
    zlet (zs h 69 44 ((h 69 44) - 1)) fun h2 =>
    fX11_note_c57 N l1 l2 h2
  else
    if 0 ≤ zw (45 + l3) ∧ zw (45 + l3) < 165 then
    if 0 ≤ zw ((45 + l3) - 2) ∧ zw ((45 + l3) - 2) < 165 then
    zlet (zs h 69 (zw ((45 + l3) - 2)).toNat (h 69 (zw (45 + l3)).toNat)) fun h5 =>
    K14 l1 l2 (l3 + 1) h5 else none else none
def fX11_note_c14 (N : Nat) : Nat → Int → Int → Int → zH → Option zH
  | 0 => fun _ _ _ _ => none
  | k + 1 => fX11_note_c14b N (fX11_note_c14 N k)
def fX11_note (N : Nat) (a1 : Int) (a2 : Int) (h : zH) : Option zH :=
  if zw (h 69 44) = zw 60 then
    fX11_note_c14 N N a1 a2 2 h
  else
    fX11_note_c57 N a1 a2 h
def fX11_dawn_c96b (N : Nat) (K96 : Int → Int → Int → zH → Option zH) (l2 : Int) (l3 : Int) (l4 : Int) (h : zH) : Option zH :=
  if zw (h 14 28) ≤ zw l4 then
    zb (fX11_note N l2 l3 h) fun h2 =>
    some h2
  else
    if zw (fX11_has l2 l4) = 0 then
      zb (fX11_of l4 0 h) fun v4 =>
      zb (fX11_put_ l4 0 v4 h) fun h5 =>
      K96 l2 l3 (l4 + 1) h5
    else
      zb (fX11_of l4 0 h) fun v6 =>
      zb (fX11_form l4 h) fun v7 =>
      zb (fX11_put_ l4 0 (zand v6 (zxor (zshl 1 v7) (-1))) h) fun h8 =>
      K96 l2 l3 (l4 + 1) h8
def fX11_dawn_c96 (N : Nat) : Nat → Int → Int → Int → zH → Option zH
  | 0 => fun _ _ _ _ => none
  | k + 1 => fX11_dawn_c96b N (fX11_dawn_c96 N k)
def fX11_dawn_c54b (N : Nat) (K54 : Int → Int → Int → zH → Option zH) (l2 : Int) (l3 : Int) (l4 : Int) (h : zH) : Option zH :=
  if zw (h 14 28) ≤ zw l4 then
    fX11_dawn_c96 N N l2 l3 0 h
  else
    zb (fX11_hoursBy N l4 l2 h) fun v2 =>
    zb (fX11_put_ l4 4 v2 h) fun h3 =>
    zb (fX11_of l4 4 h3) fun v4 =>
    K54 l2 (l3 + v4) (l4 + 1) h3
def fX11_dawn_c54 (N : Nat) : Nat → Int → Int → Int → zH → Option zH
  | 0 => fun _ _ _ _ => none
  | k + 1 => fX11_dawn_c54b N (fX11_dawn_c54 N k)
def fX11_dawn_c4b (N : Nat) (K4 : Int → Int → Int → zH → Option zH) (l1 : Int) (l2 : Int) (l3 : Int) (h : zH) : Option zH :=
  if zw (h 14 28) ≤ zw l3 then
    fX11_dawn_c54 N N l2 0 0 h
  else
    if zw l1 = 0 then
      zb (fX11_of l3 0 h) fun v3 =>
      zb (fX11_form l3 h) fun v4 =>
      if zw (fX11_has v3 v4) = 0 then
        K4 l1 (zor l2 0) (l3 + 1) h
      else
        zlet (zor l2 (zshl 1 l3)) fun v6 =>
        K4 l1 v6 (l3 + 1) h
    else
      K4 l1 (zor l2 0) (l3 + 1) h
def fX11_dawn_c4 (N : Nat) : Nat → Int → Int → Int → zH → Option zH
  | 0 => fun _ _ _ _ => none
  | k + 1 => fX11_dawn_c4b N (fX11_dawn_c4 N k)
def fX11_dawn (N : Nat) (a1 : Int) (h : zH) : Option zH :=
  fX11_dawn_c4 N N a1 0 0 h
def fX11_bounded (a0 : Int) : Int :=
  zlet (fJ9_max_f86c9 (-1000000) (fJ9_min_f86c9 1000000 a0)) fun v1 =>
  zl2i v1
def fX11_worked (a0 : Int) (a1 : Int) (a3 : Int) : Option Int :=
  if zw a0 = 2 then
    some (fX11_bounded (a1 + a3))
  else
    if zw a0 = 3 then
      some (fX11_bounded (a1 - a3))
    else
      if zw a0 = 4 then
        some (fX11_bounded (a1 * a3))
      else
        if zw a0 = 5 then
          if zw (zlcmp a3 0) = 0 then
            some 0
          else
            if ¬ zwl a3 = 0 then some (fX11_bounded (zldiv a1 a3)) else none
        else
          if zw a0 = 6 then
            if zw (zlcmp a1 a3) = 0 then
              some 1
            else
              some 0
          else
            if zw a0 = 7 then
              if 0 ≤ zw (zlcmp a1 a3) then
                some 0
              else
                some 1
            else
              if zw a0 = 8 then
                if zw (zlcmp a1 a3) ≤ 0 then
                  some 0
                else
                  some 1
              else
                if zw a0 = 9 then
                  if zw (zlcmp a1 0) = 0 then
                    if zw (zlcmp a3 0) = 0 then
                      some 0
                    else
                      some 1
                  else
                    some 1
                else
                  if zw a0 = 10 then
                    if zw (zlcmp a1 0) = 0 then
                      some 0
                    else
                      if zw (zlcmp a3 0) = 0 then
                        some 0
                      else
                        some 1
                  else
                    if zw (zlcmp a1 0) = 0 then
                      if zw (zlcmp a3 0) = 0 then
                        some 0
                      else
                        some 1
                    else
                      some 1
def fX11_workOut_c45 (N : Nat) (K12 : Int → Int → Int → Int → zH → Option (Int × zH)) (l1 : Int) (l3 : Int) (l4 : Int) (l5 : Int) (h : zH) : Option (Int × zH) :=
  if 0 ≤ zw l5 ∧ zw l5 < 2600 then
  if zw (h 50 (zw l5).toNat) = 0 then
    if 0 ≤ zw l5 ∧ zw l5 < 2600 then
    if 0 ≤ zw l4 ∧ zw l4 < 80 then
    zlet (zs h 58 (zw l4).toNat (h 51 (zw l5).toNat)) fun h5 =>
    K12 l1 l3 (l4 + 1) (l5 + 1) h5 else none else none
  else
    if 0 ≤ zw l5 ∧ zw l5 < 2600 then
    if 0 ≤ zw (h 51 (zw l5).toNat) ∧ zw (h 51 (zw l5).toNat) < 7 then
    if 0 ≤ zw l4 ∧ zw l4 < 80 then
    zlet (zs h 58 (zw l4).toNat (h 57 (zw (h 51 (zw l5).toNat)).toNat)) fun h9 =>
    K12 l1 l3 (l4 + 1) (l5 + 1) h9 else none else none else none else none
def fX11_workOut_c12b (N : Nat) (K12 : Int → Int → Int → Int → zH → Option (Int × zH)) (l1 : Int) (l3 : Int) (l4 : Int) (l5 : Int) (h : zH) : Option (Int × zH) :=
  if zw ((520 * l1) + l3) ≤ zw l5 then
    some (h 58 0, h)
  else
    if 0 ≤ zw l5 ∧ zw l5 < 2600 then
    if zw (h 50 (zw l5).toNat) = 0 then
      fX11_workOut_c45 N K12 l1 l3 l4 l5 h
    else
      if 0 ≤ zw l5 ∧ zw l5 < 2600 then
      if zw (h 50 (zw l5).toNat) = zw 1 then
        fX11_workOut_c45 N K12 l1 l3 l4 l5 h
      else
        if 0 ≤ zw l5 ∧ zw l5 < 2600 then
        if zw (h 50 (zw l5).toNat) = zw 9 then
          if 0 ≤ zw (l4 - 1) ∧ zw (l4 - 1) < 80 then
          if 0 ≤ zw (l4 - 1) ∧ zw (l4 - 1) < 80 then
          zlet (zs h 58 (zw (l4 - 1)).toNat (1 - (h 58 (zw (l4 - 1)).toNat))) fun h10 =>
          K12 l1 l3 l4 (l5 + 1) h10 else none else none
        else
          if 0 ≤ zw l5 ∧ zw l5 < 2600 then
          if 0 ≤ zw ((l4 + (-1)) - 1) ∧ zw ((l4 + (-1)) - 1) < 80 then
          if 0 ≤ zw (l4 + (-1)) ∧ zw (l4 + (-1)) < 80 then
          zb (fX11_worked (h 50 (zw l5).toNat) (zw (h 58 (zw ((l4 + (-1)) - 1)).toNat)) (zw (h 58 (zw (l4 + (-1))).toNat))) fun v14 =>
          if 0 ≤ zw ((l4 + (-1)) - 1) ∧ zw ((l4 + (-1)) - 1) < 80 then
          zlet (zs h 58 (zw ((l4 + (-1)) - 1)).toNat v14) fun h16 =>
          K12 l1 l3 (l4 + (-1)) (l5 + 1) h16 else none else none else none else none else none else none else none
def fX11_workOut_c12 (N : Nat) : Nat → Int → Int → Int → Int → zH → Option (Int × zH)
  | 0 => fun _ _ _ _ _ => none
  | k + 1 => fX11_workOut_c12b N (fX11_workOut_c12 N k)
def fX11_workOut (N : Nat) (a1 : Int) (a2 : Int) (a3 : Int) (h : zH) : Option (Int × zH) :=
  fX11_workOut_c12 N N a1 a3 0 ((520 * a1) + a2) h
def fX11_worthOf_c6b (N : Nat) (K6 : Int → Int → zH → Option (Int × zH)) (l1 : Int) (l2 : Int) (h : zH) : Option (Int × zH) :=
  if 0 ≤ zw l1 ∧ zw l1 < 5 then
  if zw ((140 * l1) + (h 53 (zw l1).toNat)) ≤ zw l2 then
    some (0, h)
  else
    if 0 ≤ zw l2 ∧ zw l2 < 700 then
    if 0 ≤ zw l2 ∧ zw l2 < 700 then
    if zw (h 54 (zw l2).toNat) = zw (h 55 (zw l2).toNat) then
      if 0 ≤ zw l2 ∧ zw l2 < 700 then
      if 0 ≤ zw l2 ∧ zw l2 < 700 then
      z2 (fX11_workOut N l1 (h 55 (zw l2).toNat) (h 56 (zw l2).toNat) h) fun v9 h8 =>
      some (v9, h8) else none else none
    else
      if 0 ≤ zw l2 ∧ zw l2 < 700 then
      if 0 ≤ zw l2 ∧ zw l2 < 700 then
      z2 (fX11_workOut N l1 (h 54 (zw l2).toNat) (h 55 (zw l2).toNat) h) fun v13 h12 =>
      if zw v13 = 0 then
        K6 l1 (l2 + 1) h12
      else
        if 0 ≤ zw l2 ∧ zw l2 < 700 then
        if 0 ≤ zw l2 ∧ zw l2 < 700 then
        z2 (fX11_workOut N l1 (h12 55 (zw l2).toNat) (h12 56 (zw l2).toNat) h12) fun v18 h17 =>
        some (v18, h17) else none else none else none else none else none else none else none
def fX11_worthOf_c6 (N : Nat) : Nat → Int → Int → zH → Option (Int × zH)
  | 0 => fun _ _ _ => none
  | k + 1 => fX11_worthOf_c6b N (fX11_worthOf_c6 N k)
def fX11_worthOf (N : Nat) (a1 : Int) (h : zH) : Option (Int × zH) :=
  fX11_worthOf_c6 N N a1 (140 * a1) h
def fX11_isGranted (N : Nat) (a1 : Int) (a2 : Int) (a3 : Int) (h : zH) : Option (Int × zH) :=
  if zw (h 14 35) = zw (-1) then
    some (1, h)
  else
    zlet (zs h 57 0 (fX11_time h)) fun h2 =>
    zlet (zs h2 57 1 (zdiv (h2 69 42) 24)) fun h3 =>
    zlet (zs h3 57 2 a3) fun h4 =>
    zb (fX11_of a1 0 h4) fun v5 =>
    zlet (zs h4 57 3 (fJ6_bitCount_0f7a4 v5)) fun h6 =>
    zlet (zs h6 57 4 a1) fun h7 =>
    zlet (zs h7 57 5 a2) fun h8 =>
    if 0 ≤ zw ((3 * a1) + 2) ∧ zw ((3 * a1) + 2) < 18 then
    zlet (zs h8 57 6 (h8 64 (zw ((3 * a1) + 2)).toNat)) fun h10 =>
    z2 (fX11_worthOf N (h10 14 35) h10) fun v12 h11 =>
    if zw v12 ≤ 0 then
      some (0, h11)
    else
      some (1, h11) else none
def fX11_serve_c21 (N : Nat) (l1 : Int) (s0 : Int) (h : zH) : Option zH :=
  if zw s0 = zw (-1) then
    some h
  else
    zb (fX11_of s0 3 h) fun v2 =>
    zb (fX11_put_ s0 3 (v2 + 1) h) fun h3 =>
    zb (fX11_of s0 3 h3) fun v4 =>
    if 0 ≤ zw ((4 * l1) + 2) ∧ zw ((4 * l1) + 2) < 16 then
    if zw v4 = zw (h3 65 (zw ((4 * l1) + 2)).toNat) then
      zb (fX11_of s0 1 h3) fun v7 =>
      zb (fX11_backlog N l1 h3) fun v8 =>
      zb (fX11_goAway s0 h3) fun h9 =>
      zb (fX11_of s0 5 h9) fun v10 =>
      if 0 ≤ zw ((4 * l1) + 3) ∧ zw ((4 * l1) + 3) < 16 then
      zb (fX11_put_ s0 5 (v10 + (h9 65 (zw ((4 * l1) + 3)).toNat)) h9) fun h12 =>
      z2 (fX11_isGranted N s0 v7 v8 h12) fun v14 h13 =>
      if zw v14 = 0 then
        zb (fX11_of s0 6 h13) fun v16 =>
        zb (fX11_put_ s0 6 (v16 + 1) h13) fun h17 =>
        some h17
      else
        zb (fX11_of s0 0 h13) fun v18 =>
        zb (fX11_put_ s0 0 (zor v18 (zshl 1 v7)) h13) fun h19 =>
        some h19 else none
    else
      some h3 else none
def fX11_serve (N : Nat) (a1 : Int) (h : zH) : Option zH :=
  zb (fX11_isOpen a1 (fX11_time h) h) fun v1 =>
  if zw v1 = 0 then
    fX11_serve_c21 N a1 (-1) h
  else
    zb (fX11_firstAt N a1 h) fun v3 =>
    fX11_serve_c21 N a1 v3 h
def fX11_pass_c14b (N : Nat) (K14 : Int → zH → Option zH) (l2 : Int) (h : zH) : Option zH :=
  if zw (h 14 29) ≤ zw l2 then
    zlet (zs h 69 42 ((h 69 42) + 1)) fun h2 =>
    some h2
  else
    zb (fX11_serve N l2 h) fun h3 =>
    K14 (l2 + 1) h3
def fX11_pass_c14 (N : Nat) : Nat → Int → zH → Option zH
  | 0 => fun _ _ => none
  | k + 1 => fX11_pass_c14b N (fX11_pass_c14 N k)
def fX11_pass (N : Nat) (a1 : Int) (h : zH) : Option zH :=
  if zw (fX11_isDawn h) = 0 then
    fX11_pass_c14 N N 0 h
  else
    zb (fX11_dawn N a1 h) fun h2 =>
    fX11_pass_c14 N N 0 h2
def fX11_go_c15b (N : Nat) (K15 : Int → Int → zH → Option (Int × zH)) (l1 : Int) (l2 : Int) (h : zH) : Option (Int × zH) :=
  if zw l1 ≤ zw l2 then
    some (h 69 42, h)
  else
    zb (fX11_keep N h) fun h2 =>
    zb (fX11_pass N 0 h2) fun h3 =>
    K15 l1 (l2 + 1) h3
def fX11_go_c15 (N : Nat) : Nat → Int → Int → zH → Option (Int × zH)
  | 0 => fun _ _ _ => none
  | k + 1 => fX11_go_c15b N (fX11_go_c15 N k)
def fX11_go (N : Nat) (a1 : Int) (h : zH) : Option (Int × zH) :=
  if zw (fX11_areHours a1 240 h) = 0 then
    some ((-1), h)
  else
    fX11_go_c15 N N a1 0 h
def fX11_undo_c21b (N : Nat) (K21 : Int → zH → Option (Int × zH)) (l1 : Int) (h : zH) : Option (Int × zH) :=
  if zw 165 ≤ zw l1 then
    some (h 14 38, h)
  else
    if 0 ≤ zw ((165 * (h 14 38)) + l1) ∧ zw ((165 * (h 14 38)) + l1) < 6600 then
    if 0 ≤ zw l1 ∧ zw l1 < 165 then
    zlet (zs h 69 (zw l1).toNat (h 70 (zw ((165 * (h 14 38)) + l1)).toNat)) fun h4 =>
    K21 (l1 + 1) h4 else none else none
def fX11_undo_c21 (N : Nat) : Nat → Int → zH → Option (Int × zH)
  | 0 => fun _ _ => none
  | k + 1 => fX11_undo_c21b N (fX11_undo_c21 N k)
def fX11_undo (N : Nat) (h : zH) : Option (Int × zH) :=
  if zw (h 14 38) = 0 then
    some ((-1), h)
  else
    zlet (zs h 14 38 ((h 14 38) - 1)) fun h2 =>
    fX11_undo_c21 N N 0 h2
def fX11_log (a1 : Int) (a2 : Int) (h : zH) : Option Int :=
  if zw (fX11_in a1 0 ((h 69 44) - 1)) = 0 then
    some (-1)
  else
    if zw (fX11_in a2 0 1) = 0 then
      some (-1)
    else
      if 0 ≤ zw ((45 + (2 * (((h 69 44) - 1) - a1))) + a2) ∧ zw ((45 + (2 * (((h 69 44) - 1) - a1))) + a2) < 165 then
      some (h 69 (zw ((45 + (2 * (((h 69 44) - 1) - a1))) + a2)).toNat) else none
def fX11_isOrders (a1 : Int) (h : zH) : Int :=
  fX11_in a1 0 ((h 14 33) - 1)
def fX11_step (a1 : Int) (a2 : Int) (a3 : Int) (h : zH) : Option Int :=
  if zw (fX11_isOrders a1 h) = 0 then
    some (-1)
  else
    if 0 ≤ zw a1 ∧ zw a1 < 5 then
    if zw (fX11_in a2 0 ((h 68 (zw a1).toNat) - 1)) = 0 then
      some (-1)
    else
      if zw (fX11_in a3 0 2) = 0 then
        some (-1)
      else
        if 0 ≤ zw ((3 * ((16 * a1) + a2)) + a3) ∧ zw ((3 * ((16 * a1) + a2)) + a3) < 240 then
        some (h 67 (zw ((3 * ((16 * a1) + a2)) + a3)).toNat) else none else none
def fX11_putAside_c2b (N : Nat) (K2 : Int → zH → Option zH) (l1 : Int) (h : zH) : Option zH :=
  if zw 165 ≤ zw l1 then
    some h
  else
    if 0 ≤ zw l1 ∧ zw l1 < 165 then
    if 0 ≤ zw l1 ∧ zw l1 < 165 then
    zlet (zs h 71 (zw l1).toNat (h 69 (zw l1).toNat)) fun h4 =>
    K2 (l1 + 1) h4 else none else none
def fX11_putAside_c2 (N : Nat) : Nat → Int → zH → Option zH
  | 0 => fun _ _ => none
  | k + 1 => fX11_putAside_c2b N (fX11_putAside_c2 N k)
def fX11_putAside (N : Nat) (h : zH) : Option zH :=
  fX11_putAside_c2 N N 0 h
def fX11_canStep (N : Nat) (a1 : Int) (h : zH) : Option Int :=
  if 0 ≤ zw a1 ∧ zw a1 < 240 then
  zlet (h 67 (zw a1).toNat) fun v2 =>
  if zw v2 = 0 then
    if 0 ≤ zw (a1 + 1) ∧ zw (a1 + 1) < 240 then
    if 0 ≤ zw (a1 + 2) ∧ zw (a1 + 2) < 240 then
    zb (fX11_canFile N (h 67 (zw (a1 + 1)).toNat) (h 67 (zw (a1 + 2)).toNat) h) fun v6 =>
    if v6 = 0 ∨ v6 = 1 then some v6 else none else none else none
  else
    if zw v2 = zw 1 then
      if 0 ≤ zw (a1 + 1) ∧ zw (a1 + 1) < 240 then
      zb (fX11_canWithdraw (h 67 (zw (a1 + 1)).toNat) h) fun v10 =>
      if v10 = 0 ∨ v10 = 1 then some v10 else none else none
    else
      if zw 9999 ≤ zw (h 69 42) then
        some 0
      else
        some 1 else none
def fX11_doStep (N : Nat) (a1 : Int) (h : zH) : Option zH :=
  if 0 ≤ zw a1 ∧ zw a1 < 240 then
  if zw (h 67 (zw a1).toNat) = 0 then
    if 0 ≤ zw (a1 + 1) ∧ zw (a1 + 1) < 240 then
    if 0 ≤ zw (a1 + 2) ∧ zw (a1 + 2) < 240 then
    zb (fX11_fileNow (h 67 (zw (a1 + 1)).toNat) (h 67 (zw (a1 + 2)).toNat) h) fun h5 =>
    some h5 else none else none
  else
    if 0 ≤ zw a1 ∧ zw a1 < 240 then
    if zw (h 67 (zw a1).toNat) = zw 1 then
      if 0 ≤ zw (a1 + 1) ∧ zw (a1 + 1) < 240 then
      zb (fX11_goAway (h 67 (zw (a1 + 1)).toNat) h) fun h9 =>
      some h9 else none
    else
      zb (fX11_pass N 0 h) fun h10 =>
      some h10 else none else none
def fX11_takeBack_c2b (N : Nat) (K2 : Int → zH → Option zH) (l1 : Int) (h : zH) : Option zH :=
  if zw 165 ≤ zw l1 then
    some h
  else
    if 0 ≤ zw l1 ∧ zw l1 < 165 then
    if 0 ≤ zw l1 ∧ zw l1 < 165 then
    zlet (zs h 69 (zw l1).toNat (h 71 (zw l1).toNat)) fun h4 =>
    K2 (l1 + 1) h4 else none else none
def fX11_takeBack_c2 (N : Nat) : Nat → Int → zH → Option zH
  | 0 => fun _ _ => none
  | k + 1 => fX11_takeBack_c2b N (fX11_takeBack_c2 N k)
def fX11_takeBack (N : Nat) (h : zH) : Option zH :=
  fX11_takeBack_c2 N N 0 h
def fX11_run_c25b (N : Nat) (K25 : Int → Int → zH → Option (Int × zH)) (l1 : Int) (l2 : Int) (h : zH) : Option (Int × zH) :=
  if 0 ≤ zw l1 ∧ zw l1 < 5 then
  if zw (h 68 (zw l1).toNat) ≤ zw l2 then
    zb (fX11_takeBack N h) fun h3 =>
    if 0 ≤ zw l1 ∧ zw l1 < 5 then
    if zw l2 = zw (h3 68 (zw l1).toNat) then
      some ((-1), h3)
    else
      some (l2, h3) else none
  else
    zb (fX11_canStep N (3 * ((16 * l1) + l2)) h) fun v6 =>
    if zw v6 = 0 then
      zb (fX11_takeBack N h) fun h8 =>
      if 0 ≤ zw l1 ∧ zw l1 < 5 then
      if zw l2 = zw (h8 68 (zw l1).toNat) then
        some ((-1), h8)
      else
        some (l2, h8) else none
    else
      zb (fX11_doStep N (3 * ((16 * l1) + l2)) h) fun h11 =>
      K25 l1 (l2 + 1) h11 else none
def fX11_run_c25 (N : Nat) : Nat → Int → Int → zH → Option (Int × zH)
  | 0 => fun _ _ _ => none
  | k + 1 => fX11_run_c25b N (fX11_run_c25 N k)
def fX11_run (N : Nat) (a1 : Int) (h : zH) : Option (Int × zH) :=
  if zw (h 14 28) = 0 then
    some ((-1000000), h)
  else
    if zw (fX11_isOrders a1 h) = 0 then
      some ((-1000000), h)
    else
      zb (fX11_putAside N h) fun h3 =>
      fX11_run_c25 N N a1 0 h3
def fX11_perform_c19b (N : Nat) (K19 : Int → Int → zH → Option (Int × zH)) (l1 : Int) (l2 : Int) (h : zH) : Option (Int × zH) :=
  if 0 ≤ zw l1 ∧ zw l1 < 5 then
  if zw (h 68 (zw l1).toNat) ≤ zw l2 then
    some (l2, h)
  else
    zb (fX11_canStep N (3 * ((16 * l1) + l2)) h) fun v3 =>
    if zw v3 = 0 then
      some (l2, h)
    else
      zb (fX11_keep N h) fun h5 =>
      zb (fX11_doStep N (3 * ((16 * l1) + l2)) h5) fun h6 =>
      K19 l1 (l2 + 1) h6 else none
def fX11_perform_c19 (N : Nat) : Nat → Int → Int → zH → Option (Int × zH)
  | 0 => fun _ _ _ => none
  | k + 1 => fX11_perform_c19b N (fX11_perform_c19 N k)
def fX11_perform (N : Nat) (a1 : Int) (h : zH) : Option (Int × zH) :=
  if zw (h 14 28) = 0 then
    some ((-1), h)
  else
    if zw (fX11_isOrders a1 h) = 0 then
      some ((-1), h)
    else
      fX11_perform_c19 N N a1 0 h
def fX11_ahead_c37b (N : Nat) (K37 : Int → Int → Int → Int → zH → Option (Int × zH)) (l1 : Int) (l2 : Int) (l3 : Int) (l4 : Int) (h : zH) : Option (Int × zH) :=
  if zw l2 ≤ zw l4 then
    if zw l3 = 0 then
      zb (fX11_of l1 0 h) fun v3 =>
      zb (fX11_takeBack N h) fun h4 =>
      some (v3, h4)
    else
      zb (fX11_of l1 4 h) fun v5 =>
      zb (fX11_takeBack N h) fun h6 =>
      some (v5, h6)
  else
    zb (fX11_pass N 0 h) fun h7 =>
    K37 l1 l2 l3 (l4 + 1) h7
def fX11_ahead_c37 (N : Nat) : Nat → Int → Int → Int → Int → zH → Option (Int × zH)
  | 0 => fun _ _ _ _ _ => none
  | k + 1 => fX11_ahead_c37b N (fX11_ahead_c37 N k)
def fX11_ahead (N : Nat) (a1 : Int) (a2 : Int) (a3 : Int) (h : zH) : Option (Int × zH) :=
  if zw (fX11_isParish a1 h) = 0 then
    some ((-1), h)
  else
    if zw (fX11_in a2 0 240) = 0 then
      some ((-1), h)
    else
      if zw (fX11_in a3 0 1) = 0 then
        some ((-1), h)
      else
        zb (fX11_putAside N h) fun h4 =>
        fX11_ahead_c37 N N a1 a2 a3 0 h4
def fX11_neededFor_c13b (N : Nat) (h : zH) (K4 : Int → Int → Option Int) (K13 : Int → Int → Int → Option Int) (l2 : Int) (l3 : Int) (l4 : Int) : Option Int :=
  if zw (h 14 30) ≤ zw l4 then
    K4 l2 (l3 + 1)
  else
    if zw (fX11_has l2 l4) = 0 then
      K13 (zor l2 0) l3 (l4 + 1)
    else
      zb (fX11_wants N l4 h) fun v3 =>
      K13 (zor l2 v3) l3 (l4 + 1)
def fX11_neededFor_c13 (N : Nat) (h : zH) (K4 : Int → Int → Option Int) : Nat → Int → Int → Int → Option Int
  | 0 => fun _ _ _ => none
  | k + 1 => fX11_neededFor_c13b N h K4 (fX11_neededFor_c13 N h K4 k)
def fX11_neededFor_c4b (N : Nat) (h : zH) (K4 : Int → Int → Option Int) (l2 : Int) (l3 : Int) : Option Int :=
  if zw 8 ≤ zw l3 then
    some l2
  else
    fX11_neededFor_c13 N h K4 N l2 l3 0
def fX11_neededFor_c4 (N : Nat) (h : zH) : Nat → Int → Int → Option Int
  | 0 => fun _ _ => none
  | k + 1 => fX11_neededFor_c4b N h (fX11_neededFor_c4 N h k)
def fX11_neededFor (N : Nat) (a1 : Int) (h : zH) : Option Int :=
  fX11_neededFor_c4 N h N a1 0
def fX11_needed (N : Nat) (a1 : Int) (h : zH) : Option Int :=
  if zw (fX11_isPaper a1 h) = 0 then
    some (-1)
  else
    zb (fX11_neededFor N (zshl 1 a1) h) fun v2 =>
    some v2
def fX11_ring_c13b (N : Nat) (h : zH) (K13 : Int → Int → Option Int) (l1 : Int) (l2 : Int) : Option Int :=
  if zw (h 14 30) ≤ zw l2 then
    some l1
  else
    zb (fX11_wants N l2 h) fun v2 =>
    zb (fX11_neededFor N v2 h) fun v3 =>
    if zw (fX11_has v3 l2) = 0 then
      K13 (zor l1 0) (l2 + 1)
    else
      zlet (zor l1 (zshl 1 l2)) fun v5 =>
      K13 v5 (l2 + 1)
def fX11_ring_c13 (N : Nat) (h : zH) : Nat → Int → Int → Option Int
  | 0 => fun _ _ => none
  | k + 1 => fX11_ring_c13b N h (fX11_ring_c13 N h k)
def fX11_ring (N : Nat) (h : zH) : Option Int :=
  if zw (h 14 28) = 0 then
    some (-1)
  else
    fX11_ring_c13 N h N 0 0
def fX11_lacks_c37b (N : Nat) (h : zH) (K27 : Int → Int → Int → Option Int) (K37 : Int → Int → Int → Int → Option Int) (l2 : Int) (l3 : Int) (l4 : Int) (l5 : Int) : Option Int :=
  if zw (h 14 30) ≤ zw l5 then
    K27 l2 l3 (l4 + 1)
  else
    if zw (fX11_has l3 l5) = 0 then
      K37 l2 (zor l3 0) l4 (l5 + 1)
    else
      zb (fX11_wants N l5 h) fun v3 =>
      zlet (zor l3 (zand v3 (zxor l2 (-1)))) fun v4 =>
      K37 l2 v4 l4 (l5 + 1)
def fX11_lacks_c37 (N : Nat) (h : zH) (K27 : Int → Int → Int → Option Int) : Nat → Int → Int → Int → Int → Option Int
  | 0 => fun _ _ _ _ => none
  | k + 1 => fX11_lacks_c37b N h K27 (fX11_lacks_c37 N h K27 k)
def fX11_lacks_c27b (N : Nat) (h : zH) (K27 : Int → Int → Int → Option Int) (l2 : Int) (l3 : Int) (l4 : Int) : Option Int :=
  if zw 8 ≤ zw l4 then
    some l3
  else
    fX11_lacks_c37 N h K27 N l2 l3 l4 0
def fX11_lacks_c27 (N : Nat) (h : zH) : Nat → Int → Int → Int → Option Int
  | 0 => fun _ _ _ => none
  | k + 1 => fX11_lacks_c27b N h (fX11_lacks_c27 N h k)
def fX11_lacks (N : Nat) (a1 : Int) (a2 : Int) (h : zH) : Option Int :=
  zb (fX11_form a1 h) fun v1 =>
  if zw (fX11_has a2 v1) = 0 then
    zb (fX11_form a1 h) fun v3 =>
    zlet (zshl 1 v3) fun v4 =>
    fX11_lacks_c27 N h N a2 v4 0
  else
    fX11_lacks_c27 N h N a2 0 0
def fX11_hadBy_c18b (N : Nat) (h : zH) (K18 : Int → Int → Int → Option Int) (l1 : Int) (l3 : Int) (l4 : Int) : Option Int :=
  if zw l3 ≤ 0 then
    some l4
  else
    zb (fX11_deskOf l1 h) fun v2 =>
    zb (fX11_isOpen v2 (zrem l4 24) h) fun v3 =>
    if zw v3 = 0 then
      K18 l1 (l3 - 0) (l4 + 1)
    else
      K18 l1 (l3 - 1) (l4 + 1)
def fX11_hadBy_c18 (N : Nat) (h : zH) : Nat → Int → Int → Int → Option Int
  | 0 => fun _ _ _ => none
  | k + 1 => fX11_hadBy_c18b N h (fX11_hadBy_c18 N h k)
def fX11_hadBy (N : Nat) (a1 : Int) (a2 : Int) (h : zH) : Option Int :=
  zb (fX11_deskOf a1 h) fun v1 =>
  if 0 ≤ zw ((4 * v1) + 2) ∧ zw ((4 * v1) + 2) < 16 then
  zlet (h 65 (zw ((4 * v1) + 2)).toNat) fun v3 =>
  fX11_hadBy_c18 N h N a1 v3 a2 else none
def fX11_tryRows_c54b (N : Nat) (R_fX11_tryRows : Int → Int → Int → Int → Int → zH → Option zH) (K54 : Int → Int → Int → Int → Int → Int → zH → Option zH) (l1 : Int) (l2 : Int) (l3 : Int) (l4 : Int) (l5 : Int) (l6 : Int) (h : zH) : Option zH :=
  if zw (h 14 30) ≤ zw l6 then
    some h
  else
    if zw (fX11_has l1 l6) = 0 then
      K54 l1 l2 l3 l4 l5 (l6 + 1) h
    else
      zb (fX11_wants N l6 h) fun v3 =>
      if zw (zand v3 (zxor l2 (-1))) = 0 then
        zb (fX11_hadBy N l6 l3 h) fun v5 =>
        zb (fX11_deskOf l6 h) fun v6 =>
        if 0 ≤ zw ((4 * v6) + 3) ∧ zw ((4 * v6) + 3) < 16 then
        zb (R_fX11_tryRows (zand l1 (zxor (zshl 1 l6) (-1))) (zor l2 (zshl 1 l6)) v5 ((10 * l4) + l6) (l5 + (h 65 (zw ((4 * v6) + 3)).toNat)) h) fun h8 =>
        K54 l1 l2 l3 l4 l5 (l6 + 1) h8 else none
      else
        K54 l1 l2 l3 l4 l5 (l6 + 1) h
def fX11_tryRows_c54 (N : Nat) (R_fX11_tryRows : Int → Int → Int → Int → Int → zH → Option zH) : Nat → Int → Int → Int → Int → Int → Int → zH → Option zH
  | 0 => fun _ _ _ _ _ _ _ => none
  | k + 1 => fX11_tryRows_c54b N R_fX11_tryRows (fX11_tryRows_c54 N R_fX11_tryRows k)
def fX11_tryRows_b (N : Nat) (R_fX11_tryRows : Int → Int → Int → Int → Int → zH → Option zH) (a1 : Int) (a2 : Int) (a3 : Int) (a4 : Int) (a5 : Int) (h : zH) : Option zH :=
  if zw a1 = 0 then
    zlet (a3 - (h 69 42)) fun v2 =>
    if zw (h 14 41) = zw (-1) then
      zlet (zs h 14 41 v2) fun h4 =>
      zlet (zs h4 14 40 a4) fun h5 =>
      zlet (zs h5 14 42 a5) fun h6 =>
      some h6
    else
      if zw (h 14 41) ≤ zw v2 then
        some h
      else
        zlet (zs h 14 41 v2) fun h8 =>
        zlet (zs h8 14 40 a4) fun h9 =>
        zlet (zs h9 14 42 a5) fun h10 =>
        some h10
  else
    fX11_tryRows_c54 N R_fX11_tryRows N a1 a2 a3 a4 a5 0 h
def fG_X11_tryRows (N : Nat) : Nat → (Int → Int → Int → Int → Int → zH → Option zH)
  | 0 => (fun _ _ _ _ _ _ => none)
  | k + 1 => fX11_tryRows_b N ((fG_X11_tryRows N k))
def fX11_tryRows (N : Nat) : Int → Int → Int → Int → Int → zH → Option zH := (fG_X11_tryRows N 60)
def fX11_laySoonest (N : Nat) (a1 : Int) (a2 : Int) (h : zH) : Option zH :=
  zlet (zs h 14 41 (-1)) fun h1 =>
  zlet (zs h1 14 40 (-1)) fun h2 =>
  zlet (zs h2 14 42 0) fun h3 =>
  zb (fX11_lacks N a1 a2 h3) fun v4 =>
  zb (fX11_tryRows N v4 a2 (h3 69 42) 0 0 h3) fun h5 =>
  if zw v4 = 0 then
    zlet (zs h5 14 40 (-1)) fun h7 =>
    some h7
  else
    zlet (zs h5 14 40 (h5 14 40)) fun h8 =>
    some h8
def fX11_soonest (N : Nat) (a1 : Int) (a2 : Int) (h : zH) : Option (Int × zH) :=
  if zw (fX11_isParish a1 h) = 0 then
    some ((-1), h)
  else
    if zw (fX11_in a2 0 2) = 0 then
      some ((-1), h)
    else
      zb (fX11_of a1 0 h) fun v3 =>
      zb (fX11_laySoonest N a1 v3 h) fun h4 =>
      if zw (h4 14 41) = zw (-1) then
        some ((-1), h4)
      else
        if zw a2 = 0 then
          some (h4 14 41, h4)
        else
          if zw a2 = zw 1 then
            some (h4 14 40, h4)
          else
            some (h4 14 42, h4)
def fX11_hasRow_c24b (N : Nat) (h : zH) (K13 : Int → Int → Int → Option Int) (K24 : Int → Int → Int → Int → Option Int) (l3 : Int) (l4 : Int) (l5 : Int) (l6 : Int) : Option Int :=
  if zw (h 14 30) ≤ zw l6 then
    K13 l3 l4 l5
  else
    if zw (fX11_has l3 l6) = 0 then
      K24 l3 l4 l5 (l6 + 1)
    else
      if zw (fX11_has l4 l6) = 0 then
        zb (fX11_wants N l6 h) fun v4 =>
        if zw (zand v4 (zxor l4 (-1))) = 0 then
          zlet (zor l4 (zshl 1 l6)) fun v6 =>
          K24 l3 v6 1 (l6 + 1)
        else
          K24 l3 l4 l5 (l6 + 1)
      else
        K24 l3 l4 l5 (l6 + 1)
def fX11_hasRow_c24 (N : Nat) (h : zH) (K13 : Int → Int → Int → Option Int) : Nat → Int → Int → Int → Int → Option Int
  | 0 => fun _ _ _ _ => none
  | k + 1 => fX11_hasRow_c24b N h K13 (fX11_hasRow_c24 N h K13 k)
def fX11_hasRow_c13b (N : Nat) (h : zH) (K13 : Int → Int → Int → Option Int) (l3 : Int) (l4 : Int) (l5 : Int) : Option Int :=
  if zw l5 = 0 then
    if zw (zand l3 (zxor l4 (-1))) = 0 then
      some 1
    else
      some 0
  else
    fX11_hasRow_c24 N h K13 N l3 l4 0 0
def fX11_hasRow_c13 (N : Nat) (h : zH) : Nat → Int → Int → Int → Option Int
  | 0 => fun _ _ _ => none
  | k + 1 => fX11_hasRow_c13b N h (fX11_hasRow_c13 N h k)
def fX11_hasRow (N : Nat) (a1 : Int) (a2 : Int) (h : zH) : Option Int :=
  zb (fX11_lacks N a1 a2 h) fun v1 =>
  fX11_hasRow_c13 N h N v1 a2 1
def fX11_waived_c45 (N : Nat) (h : zH) (K14 : Int → Int → Int → Option Int) (l1 : Int) (l2 : Int) (l3 : Int) (s0 : Int) : Option Int :=
  if zw s0 = 0 then
    K14 l1 l2 (l3 + 1)
  else
    zb (fX11_of l1 0 h) fun v2 =>
    zb (fX11_hasRow N l1 (zor v2 l3) h) fun v3 =>
    if zw v3 = 0 then
      K14 l1 l2 (l3 + 1)
    else
      K14 l1 l3 (l3 + 1)
def fX11_waived_c14b (N : Nat) (h : zH) (K14 : Int → Int → Int → Option Int) (l1 : Int) (l2 : Int) (l3 : Int) : Option Int :=
  if zw (zshl 1 (h 14 30)) ≤ zw l3 then
    some l2
  else
    if zw l2 = zw (-1) then
      fX11_waived_c45 N h K14 l1 l2 l3 1
    else
      if zw (fJ6_bitCount_0f7a4 l2) ≤ zw (fJ6_bitCount_0f7a4 l3) then
        fX11_waived_c45 N h K14 l1 l2 l3 0
      else
        fX11_waived_c45 N h K14 l1 l2 l3 1
def fX11_waived_c14 (N : Nat) (h : zH) : Nat → Int → Int → Int → Option Int
  | 0 => fun _ _ _ => none
  | k + 1 => fX11_waived_c14b N h (fX11_waived_c14 N h k)
def fX11_waived (N : Nat) (a1 : Int) (h : zH) : Option Int :=
  if zw (fX11_isParish a1 h) = 0 then
    some (-1)
  else
    fX11_waived_c14 N h N a1 (-1) 0
def fX11_earliest_c6b (N : Nat) (K6 : Int → Int → Int → zH → Option (Int × zH)) (l1 : Int) (l2 : Int) (l3 : Int) (h : zH) : Option (Int × zH) :=
  if zw (h 14 28) ≤ zw l3 then
    some (l1, h)
  else
    zb (fX11_of l3 0 h) fun v2 =>
    zb (fX11_laySoonest N l3 v2 h) fun h3 =>
    if zw (h3 14 41) = zw (-1) then
      K6 l1 l2 (l3 + 1) h3
    else
      if zw l1 = zw (-1) then
        zlet (h3 14 41) fun v6 =>
        K6 l3 v6 (l3 + 1) h3
      else
        if zw l2 ≤ zw (h3 14 41) then
          K6 l1 l2 (l3 + 1) h3
        else
          zlet (h3 14 41) fun v8 =>
          K6 l3 v8 (l3 + 1) h3
def fX11_earliest_c6 (N : Nat) : Nat → Int → Int → Int → zH → Option (Int × zH)
  | 0 => fun _ _ _ _ => none
  | k + 1 => fX11_earliest_c6b N (fX11_earliest_c6 N k)
def fX11_earliest (N : Nat) (h : zH) : Option (Int × zH) :=
  fX11_earliest_c6 N N (-1) 0 0 h
def fX11_ten_c4b (N : Nat) (K4 : Int → Int → Int → Option Int) (l0 : Int) (l1 : Int) (l2 : Int) : Option Int :=
  if zw l0 ≤ zw l2 then
    some l1
  else
    K4 l0 (l1 * 10) (l2 + 1)
def fX11_ten_c4 (N : Nat) : Nat → Int → Int → Int → Option Int
  | 0 => fun _ _ _ => none
  | k + 1 => fX11_ten_c4b N (fX11_ten_c4 N k)
def fX11_ten (N : Nat) (a0 : Int) : Option Int :=
  fX11_ten_c4 N N a0 1 0
def fX11_isForm_c2b (N : Nat) (h : zH) (K2 : Int → Int → Option Int) (l1 : Int) (l2 : Int) : Option Int :=
  if zw (h 14 28) ≤ zw l2 then
    some 0
  else
    zb (fX11_form l2 h) fun v2 =>
    if zw v2 = zw l1 then
      some 1
    else
      K2 l1 (l2 + 1)
def fX11_isForm_c2 (N : Nat) (h : zH) : Nat → Int → Int → Option Int
  | 0 => fun _ _ => none
  | k + 1 => fX11_isForm_c2b N h (fX11_isForm_c2 N h k)
def fX11_isForm (N : Nat) (a1 : Int) (h : zH) : Option Int :=
  fX11_isForm_c2 N h N a1 0
def fX11_layRow_c54 (N : Nat) (K17 : Int → Int → Int → zH → Option (Int × zH)) (l1 : Int) (l2 : Int) (l3 : Int) (s0 : Int) (s1 : Int) (h : zH) : Option (Int × zH) :=
  if 0 ≤ zw s1 ∧ zw s1 < 6 then
  zlet (zs h 72 (zw s1).toNat s0) fun h2 =>
  if zw l2 = 0 then
    K17 l1 0 (l3 + 1) h2
  else
    if 0 ≤ zw l3 ∧ zw l3 < 6 then
    zb (fX11_isForm N (h2 72 (zw l3).toNat) h2) fun v5 =>
    if zw v5 = 0 then
      K17 l1 0 (l3 + 1) h2
    else
      K17 l1 1 (l3 + 1) h2 else none else none
def fX11_layRow_c17b (N : Nat) (K17 : Int → Int → Int → zH → Option (Int × zH)) (l1 : Int) (l2 : Int) (l3 : Int) (h : zH) : Option (Int × zH) :=
  if zw (h 14 28) ≤ zw l3 then
    if l2 = 0 ∨ l2 = 1 then some (l2, h) else none
  else
    if zw l2 = 0 then
      fX11_layRow_c54 N K17 l1 l2 l3 0 l3 h
    else
      zb (fX11_ten N (((h 14 28) - 1) - l3)) fun v4 =>
      if ¬ zw v4 = 0 then fX11_layRow_c54 N K17 l1 l2 l3 (zrem (zdiv l1 v4) 10) l3 h else none
def fX11_layRow_c17 (N : Nat) : Nat → Int → Int → Int → zH → Option (Int × zH)
  | 0 => fun _ _ _ _ => none
  | k + 1 => fX11_layRow_c17b N (fX11_layRow_c17 N k)
def fX11_layRow (N : Nat) (a1 : Int) (h : zH) : Option (Int × zH) :=
  zb (fX11_ten N (h 14 28)) fun v1 =>
  zlet (fX11_in a1 0 (v1 - 1)) fun v2 =>
  fX11_layRow_c17 N N a1 v2 0 h
def fX11_chosenHours_c38 (N : Nat) (h : zH) (K7 : Int → Int → Int → Int → Option Int) (l1 : Int) (l3 : Int) (l4 : Int) (s0 : Int) (s1 : Int) : Option Int :=
  if 0 ≤ zw l4 ∧ zw l4 < 6 then
  if 0 ≤ zw l1 ∧ zw l1 < 6 then
  if zw (h 72 (zw l4).toNat) = zw (h 72 (zw l1).toNat) then
    if zw l1 ≤ zw l4 then
      K7 l1 (s1 + s0) (l3 + 0) (l4 + 1)
    else
      K7 l1 (s1 + s0) (l3 + 1) (l4 + 1)
  else
    K7 l1 (s1 + s0) (l3 + 0) (l4 + 1) else none else none
def fX11_chosenHours_c7b (N : Nat) (h : zH) (K7 : Int → Int → Int → Int → Option Int) (l1 : Int) (l2 : Int) (l3 : Int) (l4 : Int) : Option Int :=
  if zw (h 14 28) ≤ zw l4 then
    zb (fX11_shareOf l1 l2 l3 h) fun v2 =>
    some v2
  else
    if 0 ≤ zw l4 ∧ zw l4 < 6 then
    if 0 ≤ zw l1 ∧ zw l1 < 6 then
    if zw (h 72 (zw l4).toNat) = zw (h 72 (zw l1).toNat) then
      fX11_chosenHours_c38 N h K7 l1 l3 l4 1 l2
    else
      fX11_chosenHours_c38 N h K7 l1 l3 l4 0 l2 else none else none
def fX11_chosenHours_c7 (N : Nat) (h : zH) : Nat → Int → Int → Int → Int → Option Int
  | 0 => fun _ _ _ _ => none
  | k + 1 => fX11_chosenHours_c7b N h (fX11_chosenHours_c7 N h k)
def fX11_chosenHours (N : Nat) (a1 : Int) (h : zH) : Option Int :=
  fX11_chosenHours_c7 N h N a1 0 0 0
def fX11_share (N : Nat) (a1 : Int) (a2 : Int) (h : zH) : Option (Int × zH) :=
  if zw (fX11_isParish a2 h) = 0 then
    some ((-1000000), h)
  else
    if zw 5 < zw (h 14 28) then
      some ((-1000000), h)
    else
      z2 (fX11_layRow N a1 h) fun v4 h3 =>
      if zw v4 = 0 then
        some ((-1000000), h3)
      else
        zb (fX11_chosenHours N a2 h3) fun v6 =>
        some (v6, h3)
def fX11_isRest_c29b (N : Nat) (K2 : Int → zH → Option (Int × zH)) (K29 : Int → Int → Int → Int → Int → zH → Option (Int × zH)) (l1 : Int) (l2 : Int) (l3 : Int) (l4 : Int) (l5 : Int) (h : zH) : Option (Int × zH) :=
  if zw (h 14 30) ≤ zw l5 then
    if 0 ≤ zw l1 ∧ zw l1 < 6 then
    zlet (zs h 72 (zw l1).toNat l3) fun h3 =>
    if zw l4 = 0 then
      some (0, h3)
    else
      K2 (l1 + 1) h3 else none
  else
    zb (fX11_isForm N l5 h) fun v5 =>
    if zw v5 = 0 then
      K29 l1 l2 l3 l4 (l5 + 1) h
    else
      if 0 ≤ zw l1 ∧ zw l1 < 6 then
      zlet (zs h 72 (zw l1).toNat l5) fun h8 =>
      if zw l4 = 0 then
        K29 l1 l2 l3 0 (l5 + 1) h8
      else
        zb (fX11_chosenHours N l1 h8) fun v10 =>
        if zw l2 < zw v10 then
          K29 l1 l2 l3 0 (l5 + 1) h8
        else
          K29 l1 l2 l3 1 (l5 + 1) h8 else none
def fX11_isRest_c29 (N : Nat) (K2 : Int → zH → Option (Int × zH)) : Nat → Int → Int → Int → Int → Int → zH → Option (Int × zH)
  | 0 => fun _ _ _ _ _ _ => none
  | k + 1 => fX11_isRest_c29b N K2 (fX11_isRest_c29 N K2 k)
def fX11_isRest_c2b (N : Nat) (K2 : Int → zH → Option (Int × zH)) (l1 : Int) (h : zH) : Option (Int × zH) :=
  if zw (h 14 28) ≤ zw l1 then
    some (1, h)
  else
    zb (fX11_chosenHours N l1 h) fun v2 =>
    if 0 ≤ zw l1 ∧ zw l1 < 6 then
    zlet (h 72 (zw l1).toNat) fun v4 =>
    fX11_isRest_c29 N K2 N l1 v2 v4 1 0 h else none
def fX11_isRest_c2 (N : Nat) : Nat → Int → zH → Option (Int × zH)
  | 0 => fun _ _ => none
  | k + 1 => fX11_isRest_c2b N (fX11_isRest_c2 N k)
def fX11_isRest (N : Nat) (h : zH) : Option (Int × zH) :=
  fX11_isRest_c2 N N 0 h
def fX11_rests_c30b (N : Nat) (K30 : Int → Int → Int → zH → Option (Int × zH)) (l1 : Int) (l2 : Int) (l3 : Int) (h : zH) : Option (Int × zH) :=
  zb (fX11_ten N (h 14 28)) fun v1 =>
  if zw v1 ≤ zw l3 then
    if zw l1 = zw (-1) then
      some (l2, h)
    else
      some ((-1), h)
  else
    z2 (fX11_layRow N l3 h) fun v5 h4 =>
    if zw v5 = 0 then
      K30 l1 l2 (l3 + 1) h4
    else
      z2 (fX11_isRest N h4) fun v8 h7 =>
      if zw v8 = 0 then
        K30 l1 l2 (l3 + 1) h7
      else
        if zw l2 = zw l1 then
          some (l3, h7)
        else
          K30 l1 (l2 + 1) (l3 + 1) h7
def fX11_rests_c30 (N : Nat) : Nat → Int → Int → Int → zH → Option (Int × zH)
  | 0 => fun _ _ _ _ => none
  | k + 1 => fX11_rests_c30b N (fX11_rests_c30 N k)
def fX11_rests (N : Nat) (a1 : Int) (h : zH) : Option (Int × zH) :=
  if zw (h 14 28) ≤ zw 5 then
    if zw (h 14 28) = 0 then
      some ((-1), h)
    else
      if zw (-1) ≤ zw a1 then
        fX11_rests_c30 N N a1 0 0 h
      else
        some ((-1), h)
  else
    some ((-1000000), h)
def fX11_divisor_b (R_fX11_divisor : Int → Int → Option Int) (a0 : Int) (a1 : Int) : Option Int :=
  if zw a1 = 0 then
    some a0
  else
    if ¬ zw a1 = 0 then zb (R_fX11_divisor a1 (zrem a0 a1)) fun v3 =>
    some v3 else none
def fG_X11_divisor : Nat → (Int → Int → Option Int)
  | 0 => (fun _ _ => none)
  | k + 1 => fX11_divisor_b ((fG_X11_divisor k))
def fX11_divisor : Int → Int → Option Int := (fG_X11_divisor 60)
def fX11_bribes_c80 (l1 : Int) (l2 : Int) (l3 : Int) (l4 : Int) (s0 : Int) : Option Int :=
  if zw l4 = 0 then
    if ¬ zw s0 = 0 then some (zdiv l3 s0) else none
  else
    if zw l4 = zw 1 then
      if ¬ zw s0 = 0 then some (zdiv l2 s0) else none
    else
      if zw l4 = zw 2 then
        if ¬ zw s0 = 0 then some (zdiv l1 s0) else none
      else
        if ¬ zw s0 = 0 then some (zdiv (l1 + l2) s0) else none
def fX11_bribes (a1 : Int) (a2 : Int) (a3 : Int) (a4 : Int) : Option Int :=
  if zw (fX11_in a1 1 99) = 0 then
    some (-1)
  else
    if zw (fX11_in a2 1 99) = 0 then
      some (-1)
    else
      if zw (fX11_in a3 1 99) = 0 then
        some (-1)
      else
        if zw (fX11_in a4 0 3) = 0 then
          some (-1)
        else
          if zw a3 < zw a2 then
            if zw 2 ≤ zw a4 then
              zb (fX11_divisor a1 (a1 + a2)) fun v7 =>
              fX11_bribes_c80 a1 a2 a3 a4 v7
            else
              zb (fX11_divisor a3 a2) fun v8 =>
              fX11_bribes_c80 a1 a2 a3 a4 v8
          else
            if zw a4 = zw 2 then
              some 0
            else
              some 1
def fX11_see (a1 : Int) (a2 : Int) (h : zH) : Option (Int × zH) :=
  if zw (fX11_isParish a1 h) = 0 then
    some ((-1), h)
  else
    if zw (fX11_in a2 0 24) = 0 then
      some ((-1), h)
    else
      if zw (h 14 46) = zw 12 then
        some ((-1), h)
      else
        if 0 ≤ zw (h 14 46) ∧ zw (h 14 46) < 12 then
        zlet (zs h 73 (zw (h 14 46)).toNat a1) fun h5 =>
        if 0 ≤ zw (h5 14 46) ∧ zw (h5 14 46) < 12 then
        zlet (zs h5 74 (zw (h5 14 46)).toNat a2) fun h7 =>
        zlet (zs h7 14 46 ((h7 14 46) + 1)) fun h8 =>
        some (h8 14 46, h8) else none else none
def fX11_falseBy_c4b (N : Nat) (h : zH) (K4 : Int → Int → Int → Option Int) (l1 : Int) (l2 : Int) (l3 : Int) : Option Int :=
  if zw (h 14 46) ≤ zw l3 then
    some l2
  else
    if 0 ≤ zw l3 ∧ zw l3 < 12 then
    zb (fX11_hoursBy N (h 73 (zw l3).toNat) l1 h) fun v3 =>
    if 0 ≤ zw l3 ∧ zw l3 < 12 then
    if zw v3 = zw (h 74 (zw l3).toNat) then
      K4 l1 (l2 + 0) (l3 + 1)
    else
      K4 l1 (l2 + 1) (l3 + 1) else none else none
def fX11_falseBy_c4 (N : Nat) (h : zH) : Nat → Int → Int → Int → Option Int
  | 0 => fun _ _ _ => none
  | k + 1 => fX11_falseBy_c4b N h (fX11_falseBy_c4 N h k)
def fX11_falseBy (N : Nat) (a1 : Int) (h : zH) : Option Int :=
  fX11_falseBy_c4 N h N a1 0 0
def fX11_could_c18b (N : Nat) (h : zH) (K18 : Int → Int → Int → Option Int) (l1 : Int) (l2 : Int) (l3 : Int) : Option Int :=
  if zw (zshl 1 (h 14 28)) ≤ zw l3 then
    if zw l1 = zw (-1) then
      some l2
    else
      some (-1)
  else
    zb (fX11_falseBy N l3 h) fun v3 =>
    if zw v3 = 0 then
      if zw l2 = zw l1 then
        some l3
      else
        K18 l1 (l2 + 1) (l3 + 1)
    else
      K18 l1 l2 (l3 + 1)
def fX11_could_c18 (N : Nat) (h : zH) : Nat → Int → Int → Int → Option Int
  | 0 => fun _ _ _ => none
  | k + 1 => fX11_could_c18b N h (fX11_could_c18 N h k)
def fX11_could (N : Nat) (a1 : Int) (h : zH) : Option Int :=
  if zw (h 14 28) = 0 then
    some (-1)
  else
    if zw (-1) ≤ zw a1 then
      fX11_could_c18 N h N a1 0 0
    else
      some (-1)
def fX11_sure_c4b (N : Nat) (h : zH) (K4 : Int → Int → Option Int) (l1 : Int) (l2 : Int) : Option Int :=
  if zw (h 14 28) ≤ 0 then
    some l1
  else
    if zw (zshl 1 (h 14 28)) ≤ zw l2 then
      some l1
    else
      zb (fX11_falseBy N l2 h) fun v3 =>
      if zw v3 ≤ 0 then
        if zw l1 = zw (-1) then
          K4 l2 (l2 + 1)
        else
          K4 (zand l1 l2) (l2 + 1)
      else
        K4 l1 (l2 + 1)
def fX11_sure_c4 (N : Nat) (h : zH) : Nat → Int → Int → Option Int
  | 0 => fun _ _ => none
  | k + 1 => fX11_sure_c4b N h (fX11_sure_c4 N h k)
def fX11_sure (N : Nat) (h : zH) : Option Int :=
  fX11_sure_c4 N h N (-1) 0
def fX11_wrong_c16b (N : Nat) (h : zH) (K16 : Int → Int → Option Int) (l1 : Int) (l2 : Int) : Option Int :=
  if zw (zshl 1 (h 14 28)) ≤ zw l2 then
    some l1
  else
    zb (fX11_falseBy N l2 h) fun v2 =>
    zlet (fJ9_min_7cf53 l1 v2) fun v3 =>
    K16 v3 (l2 + 1)
def fX11_wrong_c16 (N : Nat) (h : zH) : Nat → Int → Int → Option Int
  | 0 => fun _ _ => none
  | k + 1 => fX11_wrong_c16b N h (fX11_wrong_c16 N h k)
def fX11_wrong (N : Nat) (h : zH) : Option Int :=
  if zw (h 14 28) = 0 then
    some (-1)
  else
    zlet (h 14 46) fun v2 =>
    fX11_wrong_c16 N h N v2 0
def fX11_works_c67b (N : Nat) (h : zH) (K47 : Int → Int → Int → Int → Int → Option Int) (K67 : Int → Int → Int → Int → Int → Int → Int → Option Int) (l1 : Int) (l2 : Int) (l3 : Int) (l4 : Int) (l5 : Int) (l6 : Int) (l7 : Int) : Option Int :=
  if zw l1 ≤ zw l7 then
    if zw l6 ≤ zw l4 then
      zlet (fJ9_max_7cf53 l4 l6) fun v3 =>
      K47 l1 l2 l3 v3 (l5 + 1)
    else
      zlet (fJ9_max_7cf53 l4 l6) fun v4 =>
      K47 l1 l2 l5 v4 (l5 + 1)
  else
    if 0 ≤ zw ((45 + (2 * (l5 + l7))) + 1) ∧ zw ((45 + (2 * (l5 + l7))) + 1) < 165 then
    zlet (l6 + (h 69 (zw ((45 + (2 * (l5 + l7))) + 1)).toNat)) fun v6 =>
    K67 l1 l2 l3 l4 l5 v6 (l7 + 1) else none
def fX11_works_c67 (N : Nat) (h : zH) (K47 : Int → Int → Int → Int → Int → Option Int) : Nat → Int → Int → Int → Int → Int → Int → Int → Option Int
  | 0 => fun _ _ _ _ _ _ _ => none
  | k + 1 => fX11_works_c67b N h K47 (fX11_works_c67 N h K47 k)
def fX11_works_c47b (N : Nat) (h : zH) (K47 : Int → Int → Int → Int → Int → Option Int) (l1 : Int) (l2 : Int) (l3 : Int) (l4 : Int) (l5 : Int) : Option Int :=
  if zw (h 69 44) < zw (l5 + l1) then
    if zw l2 = 0 then
      some l3
    else
      some l4
  else
    fX11_works_c67 N h K47 N l1 l2 l3 l4 l5 0 0
def fX11_works_c47 (N : Nat) (h : zH) : Nat → Int → Int → Int → Int → Int → Option Int
  | 0 => fun _ _ _ _ _ => none
  | k + 1 => fX11_works_c47b N h (fX11_works_c47 N h k)
def fX11_works (N : Nat) (a1 : Int) (a2 : Int) (h : zH) : Option Int :=
  if zw (h 14 28) = 0 then
    some (-1)
  else
    if zw (fX11_in a1 1 9) = 0 then
      some (-1)
    else
      if zw (fX11_in a2 0 1) = 0 then
        some (-1)
      else
        if zw a1 ≤ zw (h 69 44) then
          fX11_works_c47 N h N a1 a2 (-1) (-1) 0
        else
          some (-1)
def fX11_isIdle (a1 : Int) (h : zH) : Option Int :=
  zb (fX11_of a1 1 h) fun v1 =>
  if zw v1 = zw (-1) then
    zb (fX11_of a1 0 h) fun v3 =>
    zb (fX11_form a1 h) fun v4 =>
    if zw (fX11_has v3 v4) = 0 then
      some 1
    else
      some 0
  else
    some 0
def fX11_firstDigit (N : Nat) (a0 : Int) (a1 : Int) : Option Int :=
  zb (fX11_ten N (a1 - 1)) fun v1 =>
  if ¬ zw v1 = 0 then some (zdiv a0 v1) else none
def fX11_fileSoonest (N : Nat) (a1 : Int) (h : zH) : Option zH :=
  zb (fX11_of a1 0 h) fun v1 =>
  zb (fX11_lacks N a1 v1 h) fun v2 =>
  zlet (fJ6_bitCount_0f7a4 v2) fun v3 =>
  zb (fX11_of a1 0 h) fun v4 =>
  zb (fX11_laySoonest N a1 v4 h) fun h5 =>
  if zw (h5 14 41) = zw (-1) then
    some h5
  else
    zb (fX11_firstDigit N (h5 14 40) v3) fun v7 =>
    zb (fX11_fileNow a1 v7 h5) fun h8 =>
    some h8
def fX11_toil_c25b (N : Nat) (K14 : Int → Int → zH → Option (Int × zH)) (K25 : Int → Int → Int → zH → Option (Int × zH)) (l1 : Int) (l2 : Int) (l3 : Int) (h : zH) : Option (Int × zH) :=
  if zw (h 14 28) ≤ zw l3 then
    zb (fX11_pass N 0 h) fun h2 =>
    K14 l1 (l2 + 1) h2
  else
    zb (fX11_isIdle l3 h) fun v3 =>
    if zw v3 = 0 then
      K25 l1 l2 (l3 + 1) h
    else
      zb (fX11_fileSoonest N l3 h) fun h5 =>
      K25 l1 l2 (l3 + 1) h5
def fX11_toil_c25 (N : Nat) (K14 : Int → Int → zH → Option (Int × zH)) : Nat → Int → Int → Int → zH → Option (Int × zH)
  | 0 => fun _ _ _ _ => none
  | k + 1 => fX11_toil_c25b N K14 (fX11_toil_c25 N K14 k)
def fX11_toil_c14b (N : Nat) (K14 : Int → Int → zH → Option (Int × zH)) (l1 : Int) (l2 : Int) (h : zH) : Option (Int × zH) :=
  if zw l1 ≤ zw l2 then
    some (h 69 42, h)
  else
    zb (fX11_keep N h) fun h2 =>
    fX11_toil_c25 N K14 N l1 l2 0 h2
def fX11_toil_c14 (N : Nat) : Nat → Int → Int → zH → Option (Int × zH)
  | 0 => fun _ _ _ => none
  | k + 1 => fX11_toil_c14b N (fX11_toil_c14 N k)
def fX11_toil (N : Nat) (a1 : Int) (h : zH) : Option (Int × zH) :=
  if zw (fX11_areHours a1 48 h) = 0 then
    some ((-1), h)
  else
    fX11_toil_c14 N N a1 0 h
def fX11_draw (a1 : Int) (h : zH) : Option (Int × zH) :=
  zlet (zs h 14 47 (((h 14 47) * 6364136223846793005) + 1442695040888963407)) fun h1 =>
  if ¬ zwl (zw a1) = 0 then some (zl2i (zlrem (zlushr (h1 14 47) 33) (zw a1)), h1) else none
def fX11_years_c34b (N : Nat) (K21 : Int → Int → zH → Option (Int × zH)) (K34 : Int → Int → Int → zH → Option (Int × zH)) (l1 : Int) (l4 : Int) (l5 : Int) (h : zH) : Option (Int × zH) :=
  if zw (h 14 28) ≤ zw l5 then
    if zw (fX11_isDawn h) = 0 then
      zb (fX11_pass N 0 h) fun h3 =>
      K21 l1 (l4 + 1) h3
    else
      z2 (fX11_draw 100 h) fun v5 h4 =>
      if zw (h4 14 36) ≤ zw v5 then
        zb (fX11_pass N 0 h4) fun h7 =>
        K21 l1 (l4 + 1) h7
      else
        zb (fX11_pass N 1 h4) fun h8 =>
        K21 l1 (l4 + 1) h8
  else
    zb (fX11_isIdle l5 h) fun v9 =>
    if zw v9 = 0 then
      K34 l1 l4 (l5 + 1) h
    else
      z2 (fX11_draw 10 h) fun v12 h11 =>
      if 0 ≤ zw ((3 * l5) + 2) ∧ zw ((3 * l5) + 2) < 18 then
      if zw (h11 64 (zw ((3 * l5) + 2)).toNat) ≤ zw v12 then
        K34 l1 l4 (l5 + 1) h11
      else
        zb (fX11_fileSoonest N l5 h11) fun h15 =>
        K34 l1 l4 (l5 + 1) h15 else none
def fX11_years_c34 (N : Nat) (K21 : Int → Int → zH → Option (Int × zH)) : Nat → Int → Int → Int → zH → Option (Int × zH)
  | 0 => fun _ _ _ _ => none
  | k + 1 => fX11_years_c34b N K21 (fX11_years_c34 N K21 k)
def fX11_years_c21b (N : Nat) (K21 : Int → Int → zH → Option (Int × zH)) (l1 : Int) (l4 : Int) (h : zH) : Option (Int × zH) :=
  if zw l1 ≤ zw l4 then
    some (h 69 42, h)
  else
    zb (fX11_keep N h) fun h2 =>
    fX11_years_c34 N K21 N l1 l4 0 h2
def fX11_years_c21 (N : Nat) : Nat → Int → Int → zH → Option (Int × zH)
  | 0 => fun _ _ _ => none
  | k + 1 => fX11_years_c21b N (fX11_years_c21 N k)
def fX11_years (N : Nat) (a1 : Int) (a2 : Int) (h : zH) : Option (Int × zH) :=
  if zw (fX11_areHours a1 240 h) = 0 then
    some ((-1), h)
  else
    zlet (zs h 14 47 a2) fun h2 =>
    fX11_years_c21 N N a1 0 h2
def fX11_image_c11b (N : Nat) (K11 : Int → zH → Option (Int × zH)) (l1 : Int) (h : zH) : Option (Int × zH) :=
  if zw 165 ≤ zw l1 then
    zlet (zs h 14 49 1) fun h2 =>
    some (h2 69 42, h2)
  else
    if 0 ≤ zw l1 ∧ zw l1 < 165 then
    if 0 ≤ zw l1 ∧ zw l1 < 165 then
    zlet (zs h 75 (zw l1).toNat (h 69 (zw l1).toNat)) fun h5 =>
    K11 (l1 + 1) h5 else none else none
def fX11_image_c11 (N : Nat) : Nat → Int → zH → Option (Int × zH)
  | 0 => fun _ _ => none
  | k + 1 => fX11_image_c11b N (fX11_image_c11 N k)
def fX11_image (N : Nat) (h : zH) : Option (Int × zH) :=
  if zw (h 14 28) = 0 then
    some ((-1), h)
  else
    fX11_image_c11 N N 0 h
def fX11_back_c11b (N : Nat) (K11 : Int → zH → Option (Int × zH)) (l1 : Int) (h : zH) : Option (Int × zH) :=
  if zw 165 ≤ zw l1 then
    zlet (zs h 14 38 0) fun h2 =>
    some (h2 69 42, h2)
  else
    if 0 ≤ zw l1 ∧ zw l1 < 165 then
    if 0 ≤ zw l1 ∧ zw l1 < 165 then
    zlet (zs h 69 (zw l1).toNat (h 75 (zw l1).toNat)) fun h5 =>
    K11 (l1 + 1) h5 else none else none
def fX11_back_c11 (N : Nat) : Nat → Int → zH → Option (Int × zH)
  | 0 => fun _ _ => none
  | k + 1 => fX11_back_c11b N (fX11_back_c11 N k)
def fX11_back (N : Nat) (h : zH) : Option (Int × zH) :=
  if zw (h 14 49) = 0 then
    some ((-1), h)
  else
    fX11_back_c11 N N 0 h
def fX11_count (a1 : Int) (h : zH) : Int :=
  if zw a1 = 0 then
    h 14 28
  else
    if zw a1 = 1 then
      h 14 29
    else
      if zw a1 = 2 then
        h 14 30
      else
        if zw a1 = 3 then
          h 14 13
        else
          if zw a1 = 4 then
            h 14 33
          else
            if zw a1 = 5 then
              h 14 2
            else
              if zw a1 = 6 then
                h 14 35
              else
                if zw a1 = 7 then
                  h 69 42
                else
                  if zw a1 = 8 then
                    h 14 36
                  else
                    if zw a1 = 9 then
                      h 14 46
                    else
                      if zw a1 = 10 then
                        h 69 44
                      else
                        if zw a1 = 11 then
                          h 14 38
                        else
                          (-1000000)
