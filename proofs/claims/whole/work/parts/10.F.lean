def F_X5_isIn (x0 : Int64) (x2 : Int32) : Option (Int32) :=
  (if (lg_cmp ((lushr x0 x2) &&& (1 : Int64)) (0 : Int64)) = 0 then (rz (0 : Int32)) else
 (rz (1 : Int32)))
def F_X0_isHollow (b : Nat) (M : Mi) (L : Ml) (x1 : Int32) : Option (Int32) :=
  ((F_X5_isIn (L b 1) x1).bind fun v5 =>
  (rz v5))
def F_X0_whoIsOn_k30 (b : Nat) (M : Mi) (L : Ml) (kf4 : Int32 → Int32 → Int32 → Option (Int32)) (x1 : Int32) (x3 : Int32) (s0 : Int32) (s1 : Int32) : Option (Int32) :=
  (kf4 x1 ((s0 ||| s1)) ((x3 + (1 : Int32))))
def F_X0_whoIsOn_k4 (b : Nat) (M : Mi) (L : Ml) : Nat → Int32 → Int32 → Int32 → Option (Int32)
  | 0, _, _, _ => none
  | n + 1, x1, x2, x3 =>
  (if (M b 3) ≤ x3 then (some x2) else
 (if ix x3 5 = true then
   (if (M (b + 3) (Int32.toNatClampNeg x3)) = x1 then (F_X0_whoIsOn_k30 b M L (F_X0_whoIsOn_k4 b M L n) x1 x3 x2 ((ishl (1 : Int32) x3))) else
  (F_X0_whoIsOn_k30 b M L (F_X0_whoIsOn_k4 b M L n) x1 x3 x2 ((0 : Int32)))) else none))
def F_X0_whoIsOn (b : Nat) (M : Mi) (L : Ml) (x1 : Int32) : Option (Int32) :=
  (F_X0_whoIsOn_k4 b M L FU x1 ((0 : Int32)) ((0 : Int32)))
def F_X5_isWithin (x0 : Int32) (x1 : Int32) : Option (Int32) :=
  (if x0 < 0 then (rz (0 : Int32)) else
 (if x1 < x0 then (rz (0 : Int32)) else
  (rz (1 : Int32))))
def F_X5_isParty (M : Mi) (L : Ml) (x1 : Int32) : Option (Int32) :=
  ((F_X5_isWithin x1 ((M 1 3) - (1 : Int32))).bind fun v10 =>
  (rz v10))
def F_X5_isTile (x0 : Int32) : Option (Int32) :=
  ((F_X5_isWithin x0 (63 : Int32)).bind fun v3 =>
  (rz v3))
def F_X5_canSet (M : Mi) (L : Ml) (x1 : Int32) (x2 : Int32) (x3 : Int32) : Option (Int32) :=
  (if x1 = (0 : Int32) then ((F_X5_isWithin x3 (999 : Int32)).bind fun v44 =>
   (rz v44)) else
 (if x1 = (1 : Int32) then ((F_X5_isTile x2).bind fun v49 =>
   (if v49 = 0 then (rz (0 : Int32)) else
  ((F_X5_isWithin x3 (1 : Int32)).bind fun v57 =>
    (if v57 = 0 then (rz (0 : Int32)) else
   (rz (1 : Int32)))))) else
 (if x1 = (2 : Int32) then ((F_X5_isTile x2).bind fun v70 =>
   (if v70 = 0 then (rz (0 : Int32)) else
  ((F_X5_isWithin x3 (1 : Int32)).bind fun v78 =>
    (if v78 = 0 then (rz (0 : Int32)) else
   ((F_X0_whoIsOn 1 M L x2).bind fun v89 =>
     (if v89 = 0 then (rz (1 : Int32)) else
    (rz (0 : Int32)))))))) else
 (if x1 = (3 : Int32) then ((F_X5_isParty M L x2).bind fun v103 =>
   (if v103 = 0 then (rz (0 : Int32)) else
  ((F_X5_isWithin x3 (9 : Int32)).bind fun v112 =>
    (if v112 = 0 then (rz (0 : Int32)) else
   (rz (1 : Int32)))))) else
 (if x1 = (4 : Int32) then ((F_X5_isParty M L x2).bind fun v126 =>
   (if v126 = 0 then (rz (0 : Int32)) else
  ((F_X5_isTile x3).bind fun v133 =>
    (if v133 = 0 then (rz (0 : Int32)) else
   ((F_X0_isHollow 1 M L x3).bind fun v144 =>
     (if v144 = 0 then (rz (1 : Int32)) else
    (rz (0 : Int32)))))))) else
 (if x1 = (5 : Int32) then ((F_X5_isParty M L x2).bind fun v158 =>
   (if v158 = 0 then (rz (0 : Int32)) else
  ((F_X5_isWithin x3 (99 : Int32)).bind fun v167 =>
    (if v167 = 0 then (rz (0 : Int32)) else
   (rz (1 : Int32)))))) else
 (rz (0 : Int32))))))))
def F_X0_isRed (b : Nat) (M : Mi) (L : Ml) (x1 : Int32) : Option (Int32) :=
  ((F_X5_isIn (L b 0) x1).bind fun v5 =>
  (rz v5))
def F_X0_isFoundBy (b : Nat) (M : Mi) (L : Ml) (x1 : Int32) : Option (Int32) :=
  ((F_X0_isRed b M L x1).bind fun v2 =>
  (if v2 = 0 then (if (irm ((irm x1 (8 : Int32)) + (x1 / (8 : Int32))) (2 : Int32)) = (1 : Int32) then (some (1 : Int32)) else
  (some (0 : Int32))) else
 (some (2 : Int32))))
def F_X0_foundOf (b : Nat) (M : Mi) (L : Ml) (x1 : Int32) : Option (Int32) :=
  (if ix x1 5 = true then
  ((F_X0_isFoundBy b M L (M (b + 3) (Int32.toNatClampNeg x1))).bind fun v7 =>
  (if ix x1 5 = true then
  (if (M (b + 1) (Int32.toNatClampNeg x1)) = (1 : Int32) then (if ix x1 5 = true then
   (if (5 : Int32) ≤ (M (b + 4) (Int32.toNatClampNeg x1)) then (some v7) else
  (if v7 = (2 : Int32) then (some v7) else
   (some (1 : Int32)))) else none) else
 (if (M (b + 1) (Int32.toNatClampNeg x1)) = (2 : Int32) then (some v7) else
 (if (M (b + 1) (Int32.toNatClampNeg x1)) = (3 : Int32) then (if ix x1 5 = true then
   (if (5 : Int32) ≤ (M (b + 4) (Int32.toNatClampNeg x1)) then (some v7) else
  (if v7 = (2 : Int32) then (some v7) else
   (some (1 : Int32)))) else none) else
 (if (M (b + 1) (Int32.toNatClampNeg x1)) = (4 : Int32) then (if v7 = (2 : Int32) then (some (2 : Int32)) else
  (some (0 : Int32))) else
 (if (M (b + 1) (Int32.toNatClampNeg x1)) = (5 : Int32) then (if ix x1 5 = true then
   (if (M (b + 4) (Int32.toNatClampNeg x1)) < (50 : Int32) then (some v7) else
  (some (2 : Int32))) else none) else
 (some v7)))))) else none)) else none)
def F_X0_rests (b : Nat) (M : Mi) (L : Ml) (x1 : Int32) (x2 : Int32) : Option (Int32) :=
  (if ix x1 5 = true then
  (if (M (b + 1) (Int32.toNatClampNeg x1)) = (2 : Int32) then (some (0 : Int32)) else
 (if (M (b + 1) (Int32.toNatClampNeg x1)) = (3 : Int32) then (some (x2 / (2 : Int32))) else
 (if (M (b + 1) (Int32.toNatClampNeg x1)) = (4 : Int32) then (if ix x1 5 = true then
   (some (M (b + 2) (Int32.toNatClampNeg x1))) else none) else
 (if (M (b + 1) (Int32.toNatClampNeg x1)) = (5 : Int32) then (some ((2 : Int32) * x2)) else
 (some x2))))) else none)
def F_J13_bitCount_95d88 (x0 : Int64) : Option (Int32) :=
  ((some (x0 - ((lushr x0 (1 : Int32)) &&& (6148914691236517205 : Int64)))).bind fun z9 =>
  ((some ((z9 &&& (3689348814741910323 : Int64)) + ((lushr z9 (2 : Int32)) &&& (3689348814741910323 : Int64)))).bind fun z23 =>
  ((some ((z23 + (lushr z23 (4 : Int32))) &&& (1085102592571150095 : Int64))).bind fun z33 =>
  ((some ((z33 + (lushr z33 (8 : Int32))) + (lushr (z33 + (lushr z33 (8 : Int32))) (16 : Int32)))).bind fun z47 =>
  (some ((Int64.toInt32 (z47 + (lushr z47 (32 : Int32)))) &&& (127 : Int32)))))))
def F_X0_named (b : Nat) (M : Mi) (L : Ml) (x1 : Int32) (x2 : Int32) : Option (Int32) :=
  (if x1 = (-5 : Int32) then (some (M b 2)) else
 (if x1 = (-4 : Int32) then (if ix x2 5 = true then
   (some (M (b + 2) (Int32.toNatClampNeg x2))) else none) else
 (if x1 = (-3 : Int32) then (if ix x2 5 = true then
   (some ((M (b + 3) (Int32.toNatClampNeg x2)) / (8 : Int32))) else none) else
 (if x1 = (-2 : Int32) then (if ix x2 5 = true then
   (some (irm (M (b + 3) (Int32.toNatClampNeg x2)) (8 : Int32))) else none) else
 (if x1 = (-1 : Int32) then (if ix x2 5 = true then
   (some (M (b + 4) (Int32.toNatClampNeg x2))) else none) else
 ((F_J13_bitCount_95d88 (L b 1)).bind fun v79 =>
  (some v79)))))))
def F_X1_joined_k48 : Option (Int32) :=
  (some (1 : Int32))
def F_X1_joined (x0 : Int32) (x1 : Int32) (x2 : Int32) : Option (Int32) :=
  (if x0 = (-14 : Int32) then (some (x1 - x2)) else
 (if x0 = (-13 : Int32) then (some (x1 + x2)) else
 (if x0 = (-12 : Int32) then (if x1 = x2 then (some (1 : Int32)) else
  (some (0 : Int32))) else
 (if x0 = (-11 : Int32) then (if x2 ≤ x1 then (some (0 : Int32)) else
  (some (1 : Int32))) else
 (if x0 = (-10 : Int32) then (if x1 = 0 then (some (0 : Int32)) else
  (if x2 = 0 then (some (0 : Int32)) else
   (some (1 : Int32)))) else
 (if x0 = (-9 : Int32) then (if x1 = 0 then (if x2 = 0 then (some (0 : Int32)) else
   (F_X1_joined_k48)) else
  (F_X1_joined_k48)) else
 (some (x1 * x2))))))))
def F_X4_end (E : Ev) (b : Nat) (M : Mi) (L : Ml) (x1 : Int32) : Option (Int32) :=
  (if x1 = 0 then (some (M b 1)) else
 (if x1 = (1 : Int32) then (some (M b 2)) else
  (some (nI (tlen E b)))))
def F_X4_start (b : Nat) (M : Mi) (L : Ml) (x1 : Int32) : Option (Int32) :=
  (if x1 = 0 then (some (0 : Int32)) else
 (if x1 = (1 : Int32) then (some (M b 1)) else
  (some (M b 2))))
def F_X1_value_k219 (E : Ev) (c1 : Nat) (kf57 : Mi → Ml → Int32 → Nat → Int32 → Int32 → Int32 → Option (Int32 × Mi × Ml)) (M : Mi) (L : Ml) (x2 : Int32) (y4 : Nat) (x5 : Int32) (x6 : Int32) (x7 : Int32) : Option (Int32 × Mi × Ml) :=
  (kf57 M L x2 y4 x5 x6 ((x7 + (1 : Int32))))
def F_X1_value_k176 (E : Ev) (c1 : Nat) (kf57 : Mi → Ml → Int32 → Nat → Int32 → Int32 → Int32 → Option (Int32 × Mi × Ml)) (M : Mi) (L : Ml) (x2 : Int32) (y4 : Nat) (x5 : Int32) (x6 : Int32) (x7 : Int32) (s1 : Int32) (s2 : Int32) : Option (Int32 × Mi × Ml) :=
  (if ix s1 40 = true then
  (F_X1_value_k219 E c1 kf57 ((up2 M 23 (Int32.toNatClampNeg s1) s2)) L x2 y4 x5 x6 x7) else none)
def F_X1_value_k111 (E : Ev) (c1 : Nat) (kf57 : Mi → Ml → Int32 → Nat → Int32 → Int32 → Int32 → Option (Int32 × Mi × Ml)) (M : Mi) (L : Ml) (x2 : Int32) (y4 : Nat) (x5 : Int32) (x6 : Int32) (x7 : Int32) (s1 : Int32) (s2 : Int32) : Option (Int32 × Mi × Ml) :=
  (if ix s1 40 = true then
  (F_X1_value_k219 E c1 kf57 ((up2 M 23 (Int32.toNatClampNeg s1) s2)) L x2 y4 x5 ((x6 + (1 : Int32))) x7) else none)
def F_X1_value_k57 (E : Ev) (c1 : Nat) : Nat → Mi → Ml → Int32 → Nat → Int32 → Int32 → Int32 → Option (Int32 × Mi × Ml)
  | 0, _, _, _, _, _, _, _ => none
  | n + 1, M, L, x2, y4, x5, x6, x7 =>
  (if x5 ≤ x7 then (if ix (0 : Int32) 40 = true then
   (some ((M 23 (Int32.toNatClampNeg (0 : Int32))), M, L)) else none) else
 (if ix x7 (tlen E y4) = true then
   (if (M (y4 + 1) (Int32.toNatClampNeg x7)) < (-6 : Int32) then (if (M (y4 + 1) (Int32.toNatClampNeg x7)) < (-8 : Int32) then (if x6 < (2 : Int32) then (F_X1_value_k219 E c1 (F_X1_value_k57 E c1 n) M L x2 y4 x5 x6 x7) else
    (if ix ((x6 + (-1 : Int32)) - (1 : Int32)) 40 = true then
      (if ix (x6 + (-1 : Int32)) 40 = true then
      ((F_X1_joined (M (y4 + 1) (Int32.toNatClampNeg x7)) (M 23 (Int32.toNatClampNeg ((x6 + (-1 : Int32)) - (1 : Int32)))) (M 23 (Int32.toNatClampNeg (x6 + (-1 : Int32))))).bind fun v215 =>
      (if ix ((x6 + (-1 : Int32)) - (1 : Int32)) 40 = true then
      (F_X1_value_k219 E c1 (F_X1_value_k57 E c1 n) ((up2 M 23 (Int32.toNatClampNeg ((x6 + (-1 : Int32)) - (1 : Int32))) v215)) L x2 y4 x5 ((x6 + (-1 : Int32))) x7) else none)) else none) else none)) else
   (if x6 < (1 : Int32) then (F_X1_value_k219 E c1 (F_X1_value_k57 E c1 n) M L x2 y4 x5 x6 x7) else
    (if (M (y4 + 1) (Int32.toNatClampNeg x7)) = (-8 : Int32) then (if ix (x6 - (1 : Int32)) 40 = true then
       (F_X1_value_k176 E c1 (F_X1_value_k57 E c1 n) M L x2 y4 x5 x6 x7 ((x6 - (1 : Int32))) ((-(M 23 (Int32.toNatClampNeg (x6 - (1 : Int32))))))) else none) else
     (if ix (x6 - (1 : Int32)) 40 = true then
       (if (M 23 (Int32.toNatClampNeg (x6 - (1 : Int32)))) = 0 then (F_X1_value_k176 E c1 (F_X1_value_k57 E c1 n) M L x2 y4 x5 x6 x7 ((x6 - (1 : Int32))) ((1 : Int32))) else
      (F_X1_value_k176 E c1 (F_X1_value_k57 E c1 n) M L x2 y4 x5 x6 x7 ((x6 - (1 : Int32))) ((0 : Int32)))) else none)))) else
  (if (40 : Int32) ≤ x6 then (F_X1_value_k219 E c1 (F_X1_value_k57 E c1 n) M L x2 y4 x5 x6 x7) else
   (if (M (y4 + 1) (Int32.toNatClampNeg x7)) < 0 then ((F_X0_named c1 M L (M (y4 + 1) (Int32.toNatClampNeg x7)) x2).bind fun v108 =>
      (F_X1_value_k111 E c1 (F_X1_value_k57 E c1 n) M L x2 y4 x5 x6 x7 x6 v108)) else
    (F_X1_value_k111 E c1 (F_X1_value_k57 E c1 n) M L x2 y4 x5 x6 x7 x6 ((M (y4 + 1) (Int32.toNatClampNeg x7))))))) else none))
def F_X1_value (E : Ev) (c1 : Nat) (M : Mi) (L : Ml) (x2 : Int32) (x3 : Int32) : Option (Int32 × Mi × Ml) :=
  ((F_X5_isWithin (M c1 4) ((M 21 2) - (1 : Int32))).bind fun v10 =>
  (if v10 = 0 then (some ((0 : Int32), M, L)) else
 (if ix (M c1 4) 6 = true then (match E.2.2 22 (Int32.toNatClampNeg (M c1 4)) with
  | none => (some ((0 : Int32), M, L))
  | some t24 => ((F_X4_end E t24 M L x3).bind fun v41 =>
   ((F_X4_start t24 M L x3).bind fun v52 =>
   (F_X1_value_k57 E c1 FU M L x2 t24 v41 ((0 : Int32)) v52)))) else none)))
def F_X5_bounded (x0 : Int32) (x1 : Int32) (x2 : Int32) : Option (Int32) :=
  (some (if x1 < (if x0 < x2 then x0 else x2) then (if x0 < x2 then x0 else x2) else x1))
def F_X1_restsOf (E : Ev) (c1 : Nat) (M : Mi) (L : Ml) (x2 : Int32) : Option (Int32 × Mi × Ml) :=
  ((F_X1_value E c1 M L x2 (2 : Int32)).bind fun r6 =>
  ((F_X5_bounded r6.1 (0 : Int32) (99 : Int32)).bind fun v12 =>
  ((F_X0_rests c1 r6.2.1 r6.2.2 x2 v12).bind fun v15 =>
  ((F_X5_bounded v15 (0 : Int32) (99 : Int32)).bind fun v21 =>
  (some (v21, r6.2.1, r6.2.2))))))
def F_X0_tires (b : Nat) (M : Mi) (L : Ml) (x1 : Int32) (x2 : Int32) : Option (Int32) :=
  (if ix x1 5 = true then
  (if (M (b + 1) (Int32.toNatClampNeg x1)) = (1 : Int32) then (some (x2 / (2 : Int32))) else
 (if (M (b + 1) (Int32.toNatClampNeg x1)) = (2 : Int32) then (some (x2 + (1 : Int32))) else
 (if (M (b + 1) (Int32.toNatClampNeg x1)) = (3 : Int32) then (if ix x1 5 = true then
   (some ((x2 / (2 : Int32)) + (M (b + 2) (Int32.toNatClampNeg x1)))) else none) else
 (if (M (b + 1) (Int32.toNatClampNeg x1)) = (4 : Int32) then (some ((2 : Int32) * (x2 + (1 : Int32)))) else
 (if (M (b + 1) (Int32.toNatClampNeg x1)) = (5 : Int32) then (some (x2 + (10 : Int32))) else
 (some x2)))))) else none)
def F_X1_tiresOf (E : Ev) (c1 : Nat) (M : Mi) (L : Ml) (x2 : Int32) : Option (Int32 × Mi × Ml) :=
  ((F_X1_value E c1 M L x2 (1 : Int32)).bind fun r6 =>
  ((F_X5_bounded r6.1 (0 : Int32) (99 : Int32)).bind fun v12 =>
  ((F_X0_tires c1 r6.2.1 r6.2.2 x2 v12).bind fun v15 =>
  ((F_X5_bounded v15 (0 : Int32) (99 : Int32)).bind fun v21 =>
  (some (v21, r6.2.1, r6.2.2))))))
def F_J9_floorMod_7cf53 (x0 : Int32) (x1 : Int32) : Option (Int32) :=
  (if x1 = 0 then none else
  (if 0 ≤ (x0 ^^^ x1) then (some (irm x0 x1)) else
 (if (irm x0 x1) = 0 then (some (irm x0 x1)) else
  (some ((irm x0 x1) + x1)))))
def F_X1_wayOf (E : Ev) (c1 : Nat) (M : Mi) (L : Ml) (x2 : Int32) : Option (Int32 × Mi × Ml) :=
  ((F_X1_value E c1 M L x2 (0 : Int32)).bind fun r4 =>
  ((F_X5_bounded r4.1 (-99 : Int32) (99 : Int32)).bind fun v11 =>
  ((F_J9_floorMod_7cf53 v11 (8 : Int32)).bind fun v16 =>
  (some (v16, r4.2.1, r4.2.2)))))
def F_X5_toldOfParty (E : Ev) (M : Mi) (L : Ml) (x1 : Int32) (x2 : Int32) : Option (Int32 × Mi × Ml) :=
  (if x2 = (3 : Int32) then (if ix x1 5 = true then
   (some ((M 3 (Int32.toNatClampNeg x1)), M, L)) else none) else
 (if x2 = (4 : Int32) then (if ix x1 5 = true then
   (some ((M 4 (Int32.toNatClampNeg x1)), M, L)) else none) else
 (if x2 = (5 : Int32) then (if ix x1 5 = true then
   (some ((M 5 (Int32.toNatClampNeg x1)), M, L)) else none) else
 (if x2 = (6 : Int32) then (if ix x1 5 = true then
   (some ((M 2 (Int32.toNatClampNeg x1)), M, L)) else none) else
 (if x2 = (7 : Int32) then ((F_X1_wayOf E 1 M L x1).bind fun r97 =>
   (some (r97.1, r97.2.1, r97.2.2))) else
 (if x2 = (8 : Int32) then ((F_X1_tiresOf E 1 M L x1).bind fun r110 =>
   (some (r110.1, r110.2.1, r110.2.2))) else
 (if x2 = (9 : Int32) then ((F_X1_restsOf E 1 M L x1).bind fun r123 =>
   (some (r123.1, r123.2.1, r123.2.2))) else
 (if x2 = (10 : Int32) then ((F_X0_foundOf 1 M L x1).bind fun v132 =>
   (some (v132, M, L))) else
 (some ((-1000 : Int32), M, L))))))))))
def F_X5_toldOfTile (M : Mi) (L : Ml) (x1 : Int32) (x2 : Int32) : Option (Int32) :=
  (if x2 = (1 : Int32) then ((F_X0_isRed 1 M L x1).bind fun v10 =>
   (if v10 = 0 then (some (0 : Int32)) else
  (some (1 : Int32)))) else
 (if x2 = (2 : Int32) then ((F_X0_isHollow 1 M L x1).bind fun v32 =>
    (if v32 = 0 then (some (0 : Int32)) else
   (some (1 : Int32)))) else
  ((F_X0_whoIsOn 1 M L x1).bind fun v49 =>
    (some v49))))
def F_X5_told_k28 (E : Ev) (M : Mi) (L : Ml) (x1 : Int32) (x2 : Int32) : Option (Int32 × Mi × Ml) :=
  ((F_X5_isTile x1).bind fun v29 =>
  (if v29 = 0 then (some ((-1000 : Int32), M, L)) else
 ((F_X5_toldOfTile M L x1 x2).bind fun v38 =>
   (some (v38, M, L)))))
def F_X5_told (E : Ev) (M : Mi) (L : Ml) (x1 : Int32) (x2 : Int32) : Option (Int32 × Mi × Ml) :=
  (if x2 = 0 then (some ((M 1 2), M, L)) else
 (if x2 = (1 : Int32) then (F_X5_told_k28 E M L x1 x2) else
  (if x2 = (2 : Int32) then (F_X5_told_k28 E M L x1 x2) else
   (if x2 = (11 : Int32) then (F_X5_told_k28 E M L x1 x2) else
    ((F_X5_isParty M L x1).bind fun v50 =>
      (if v50 = 0 then (some ((-1000 : Int32), M, L)) else
     ((F_X5_toldOfParty E M L x1 x2).bind fun r59 =>
       (some (r59.1, r59.2.1, r59.2.2)))))))))
def F_X5_set_k107 (E : Ev) (M : Mi) (L : Ml) (x4 : Int32) (s1 : Int64) : Option (Int32 × Mi × Ml) :=
  (some (x4, M, (up2 L 1 0 s1)))
def F_X5_set_k149 (E : Ev) (M : Mi) (L : Ml) (x4 : Int32) (s1 : Int64) : Option (Int32 × Mi × Ml) :=
  (some (x4, M, (up2 L 1 1 s1)))
def F_X5_set (E : Ev) (M : Mi) (L : Ml) (x1 : Int32) (x2 : Int32) (x3 : Int32) : Option (Int32 × Mi × Ml) :=
  ((F_X5_canSet M L x1 x2 x3).bind fun v4 =>
  (if v4 = 0 then (some ((-2 : Int32), M, L)) else
 ((F_X5_told E M L x2 x1).bind fun r16 =>
   (if x1 = (0 : Int32) then (some (r16.1, (up2 r16.2.1 1 2 x3), r16.2.2)) else
  (if x1 = (1 : Int32) then (if x3 = (1 : Int32) then (F_X5_set_k107 E r16.2.1 r16.2.2 r16.1 (((r16.2.2 1 0) ||| (lshl (1 : Int64) x2)))) else
   (F_X5_set_k107 E r16.2.1 r16.2.2 r16.1 (((r16.2.2 1 0) &&& ((lshl (1 : Int64) x2) ^^^ (-1 : Int64)))))) else
  (if x1 = (2 : Int32) then (if x3 = (1 : Int32) then (F_X5_set_k149 E r16.2.1 r16.2.2 r16.1 (((r16.2.2 1 1) ||| (lshl (1 : Int64) x2)))) else
   (F_X5_set_k149 E r16.2.1 r16.2.2 r16.1 (((r16.2.2 1 1) &&& ((lshl (1 : Int64) x2) ^^^ (-1 : Int64)))))) else
  (if x1 = (3 : Int32) then (if ix x2 5 = true then
    (some (r16.1, (up2 r16.2.1 3 (Int32.toNatClampNeg x2) x3), r16.2.2)) else none) else
  (if x1 = (4 : Int32) then (if ix x2 5 = true then
    (some (r16.1, (up2 r16.2.1 4 (Int32.toNatClampNeg x2) x3), r16.2.2)) else none) else
  (if ix x2 5 = true then
   (some (r16.1, (up2 r16.2.1 5 (Int32.toNatClampNeg x2) x3), r16.2.2)) else none)))))))))
def F_X5_isKind (x0 : Int32) : Option (Int32) :=
  ((F_X5_isWithin x0 (5 : Int32)).bind fun v2 =>
  (rz v2))
def F_X5_party (M : Mi) (L : Ml) (x1 : Int32) (x2 : Int32) (x3 : Int32) : Option (Int32 × Mi × Ml) :=
  ((F_X5_isKind x1).bind fun v1 =>
  (if v1 = 0 then (some ((-2 : Int32), M, L)) else
 ((F_X5_isWithin x2 (9 : Int32)).bind fun v10 =>
   (if v10 = 0 then (some ((-2 : Int32), M, L)) else
  ((F_X5_isTile x3).bind fun v17 =>
    (if v17 = 0 then (some ((-2 : Int32), M, L)) else
   ((F_X0_isHollow 1 M L x3).bind fun v28 =>
     (if v28 = 0 then (if (M 1 3) < (5 : Int32) then (if ix (M 1 3) 5 = true then
       (if ix (M 1 3) 5 = true then
       (if ix (M 1 3) 5 = true then
       (if ix (M 1 3) 5 = true then
       (some ((M 1 3), (up2 (up2 (up2 (up2 (up2 M 2 (Int32.toNatClampNeg (M 1 3)) x1) 3 (Int32.toNatClampNeg (M 1 3)) x2) 4 (Int32.toNatClampNeg (M 1 3)) x3) 5 (Int32.toNatClampNeg (M 1 3)) (0 : Int32)) 1 3 ((M 1 3) + (1 : Int32))), L)) else none) else none) else none) else none) else
     (some ((-4 : Int32), M, L))) else
    (some ((-2 : Int32), M, L))))))))))
def F_X0_leapsBy (b : Nat) (M : Mi) (L : Ml) (x1 : Int32) (x2 : Int32) : Option (Int32) :=
  (if ix x1 5 = true then
  (if (M (b + 1) (Int32.toNatClampNeg x1)) = (2 : Int32) then (if (irm x2 (2 : Int32)) = 0 then (rz (1 : Int32)) else
  (rz (0 : Int32))) else
 (if (M (b + 1) (Int32.toNatClampNeg x1)) = (3 : Int32) then (if ix x1 5 = true then
   (if x2 = (M (b + 2) (Int32.toNatClampNeg x1)) then (rz (0 : Int32)) else
  (rz (1 : Int32))) else none) else
 (if (M (b + 1) (Int32.toNatClampNeg x1)) = (4 : Int32) then (if (irm x2 (2 : Int32)) = 0 then (if (irm (M b 2) (2 : Int32)) = 0 then (rz (1 : Int32)) else
   (rz (0 : Int32))) else
  (rz (0 : Int32))) else
 (if (M (b + 1) (Int32.toNatClampNeg x1)) = (5 : Int32) then (if ix x1 5 = true then
   (if (50 : Int32) ≤ (M (b + 4) (Int32.toNatClampNeg x1)) then (rz (0 : Int32)) else
  (rz (1 : Int32))) else none) else
 (rz (1 : Int32)))))) else none)
def F_X0_landing_k96 (b : Nat) (M : Mi) (L : Ml) (x2 : Int32) (x4 : Int32) (x5 : Int32) : Option (Int32) :=
  ((F_X5_isWithin ((irm x2 (8 : Int32)) + x4) (7 : Int32)).bind fun v118 =>
  (if v118 = 0 then (some (-1 : Int32)) else
 ((F_X5_isWithin ((x2 / (8 : Int32)) + x5) (7 : Int32)).bind fun v128 =>
   (if v128 = 0 then (some (-1 : Int32)) else
  ((F_X0_isHollow b M L (((8 : Int32) * ((x2 / (8 : Int32)) + x5)) + ((irm x2 (8 : Int32)) + x4))).bind fun v143 =>
    (if v143 = 0 then (some (((8 : Int32) * ((x2 / (8 : Int32)) + x5)) + ((irm x2 (8 : Int32)) + x4))) else
   (some (-1 : Int32))))))))
def F_X0_landing_k45 (b : Nat) (M : Mi) (L : Ml) (x2 : Int32) (x3 : Int32) : Option (Int32) :=
  (if ix x3 (sA 3).length = true then
  (if ix x3 (sA 4).length = true then
  (F_X0_landing_k96 b M L x2 (((sA 3).getD (Int32.toNatClampNeg x3) 0)) (((sA 4).getD (Int32.toNatClampNeg x3) 0))) else none) else none)
def F_X0_landing_k82 (b : Nat) (M : Mi) (L : Ml) (x2 : Int32) (x3 : Int32) : Option (Int32) :=
  (if ix x3 (sA 5).length = true then
  (if ix x3 (sA 6).length = true then
  (F_X0_landing_k96 b M L x2 (((sA 5).getD (Int32.toNatClampNeg x3) 0)) (((sA 6).getD (Int32.toNatClampNeg x3) 0))) else none) else none)
def F_X0_landing (b : Nat) (M : Mi) (L : Ml) (x1 : Int32) (x2 : Int32) (x3 : Int32) : Option (Int32) :=
  ((F_X0_leapsBy b M L x1 x3).bind fun v3 =>
  (if v3 = 0 then (some (-1 : Int32)) else
 (if ix x3 (sA 1).length = true then
   (if ix x3 (sA 2).length = true then
   (if ix x1 5 = true then
   (if (M (b + 1) (Int32.toNatClampNeg x1)) = (1 : Int32) then (F_X0_landing_k45 b M L x2 x3) else
  (if ix x1 5 = true then
    (if (M (b + 1) (Int32.toNatClampNeg x1)) = (3 : Int32) then (F_X0_landing_k45 b M L x2 x3) else
   (if ix x1 5 = true then
     (if (M (b + 1) (Int32.toNatClampNeg x1)) = (2 : Int32) then (F_X0_landing_k82 b M L x2 x3) else
    (if ix x1 5 = true then
      (if (M (b + 1) (Int32.toNatClampNeg x1)) = (4 : Int32) then (F_X0_landing_k82 b M L x2 x3) else
     (F_X0_landing_k96 b M L x2 (((sA 1).getD (Int32.toNatClampNeg x3) 0)) (((sA 2).getD (Int32.toNatClampNeg x3) 0)))) else none)) else none)) else none)) else none) else none) else none)))
def F_X5_leap (M : Mi) (L : Ml) (x1 : Int32) (x2 : Int32) : Option (Int32) :=
  ((F_X5_isParty M L x1).bind fun v2 =>
  (if v2 = 0 then (some (-2 : Int32)) else
 ((F_X5_isWithin x2 (7 : Int32)).bind fun v11 =>
   (if v11 = 0 then (some (-2 : Int32)) else
  (if ix x1 5 = true then
    ((F_X0_landing 1 M L x1 (M 4 (Int32.toNatClampNeg x1)) x2).bind fun v35 =>
    (some v35)) else none)))))
def F_X0_stoodOn_k4 (b : Nat) (M : Mi) (L : Ml) : Nat → Int64 → Int32 → Option (Int64)
  | 0, _, _ => none
  | n + 1, x1, x3 =>
  (if (M b 3) ≤ x3 then (some x1) else
 (if ix x3 5 = true then
   ((some (x1 ||| (lshl (1 : Int64) (M (b + 3) (Int32.toNatClampNeg x3))))).bind fun z22 =>
   (F_X0_stoodOn_k4 b M L n z22 ((x3 + (1 : Int32))))) else none))
def F_X0_stoodOn (b : Nat) (M : Mi) (L : Ml) : Option (Int64) :=
  (F_X0_stoodOn_k4 b M L FU ((0 : Int64)) ((0 : Int32)))
def F_X5_floor (M : Mi) (L : Ml) (x1 : Int32) : Option (Int64) :=
  (if x1 = 0 then (some (L 1 0)) else
 (if x1 = (1 : Int32) then (some (L 1 1)) else
  (if x1 = (2 : Int32) then ((F_X0_stoodOn 1 M L).bind fun v34 =>
     (some v34)) else
   (some (-4611686018427387904 : Int64)))))
def F_X2_takeIn (M : Mi) (L : Ml) (x1 : Int32) : Option (Int32 × Mi × Ml) :=
  (if (M 24 2) < (160 : Int32) then (if ix (M 24 2) 160 = true then
   (rzw (1 : Int32) (up2 (up2 M 25 (Int32.toNatClampNeg (M 24 2)) x1) 24 2 (((up2 M 25 (Int32.toNatClampNeg (M 24 2)) x1) 24 2) + (1 : Int32))) L) else none) else
 (rzw (0 : Int32) M L))
def F_X5_feed (M : Mi) (L : Ml) (x1 : Int32) : Option (Int32 × Mi × Ml) :=
  ((F_X5_isWithin x1 (255 : Int32)).bind fun v4 =>
  (if v4 = 0 then (some ((-2 : Int32), M, L)) else
 ((F_X2_takeIn M L x1).bind fun r18 =>
   (if r18.1 = 0 then (some ((-4 : Int32), r18.2.1, r18.2.2)) else
  (some ((r18.2.1 24 2), r18.2.1, r18.2.2))))))
def F_X5_isText (M : Mi) (L : Ml) (x1 : Int32) : Option (Int32) :=
  ((F_X5_isWithin x1 ((M 21 2) - (1 : Int32))).bind fun v10 =>
  (rz v10))
def F_X5_force (M : Mi) (L : Ml) (x1 : Int32) : Option (Int32 × Mi × Ml) :=
  ((F_X5_isText M L x1).bind fun v2 =>
  (if v2 = 0 then (some ((-2 : Int32), M, L)) else
 (some ((M 1 4), (up2 M 1 4 x1), L))))
def F_X1_passOne_k25 (E : Ev) (c1 : Nat) (M : Mi) (L : Ml) (x2 : Int32) (s0 : Int32) : Option (Int32 × Mi × Ml) :=
  (if s0 = (-1 : Int32) then (if ix x2 5 = true then
   ((F_X1_restsOf E c1 M L x2).bind fun r48 =>
   (if ix x2 5 = true then
   (rzw (0 : Int32) (up2 r48.2.1 (c1 + 4) (Int32.toNatClampNeg x2) (if (0 : Int32) < ((M (c1 + 4) (Int32.toNatClampNeg x2)) - r48.1) then ((M (c1 + 4) (Int32.toNatClampNeg x2)) - r48.1) else (0 : Int32))) r48.2.2) else none)) else none) else
 (if ix x2 5 = true then
   ((F_X1_tiresOf E c1 M L x2).bind fun r74 =>
   (if ix x2 5 = true then
   (if ix x2 5 = true then
   (rzw (1 : Int32) (up2 (up2 r74.2.1 (c1 + 4) (Int32.toNatClampNeg x2) (if ((M (c1 + 4) (Int32.toNatClampNeg x2)) + r74.1) < (99 : Int32) then ((M (c1 + 4) (Int32.toNatClampNeg x2)) + r74.1) else (99 : Int32))) (c1 + 3) (Int32.toNatClampNeg x2) s0) r74.2.2) else none) else none)) else none))
def F_X1_passOne (E : Ev) (c1 : Nat) (M : Mi) (L : Ml) (x2 : Int32) (x3 : Int32) : Option (Int32 × Mi × Ml) :=
  (if x3 = 0 then (if ix x2 5 = true then
   ((F_X1_wayOf E c1 M L x2).bind fun r19 =>
   ((F_X0_landing c1 r19.2.1 r19.2.2 x2 (M (c1 + 3) (Int32.toNatClampNeg x2)) r19.1).bind fun v22 =>
   (F_X1_passOne_k25 E c1 r19.2.1 r19.2.2 x2 v22))) else none) else
 (F_X1_passOne_k25 E c1 M L x2 ((-1 : Int32))))
def F_X1_passMinutes_k55 (E : Ev) (c1 : Nat) (kf15 : Mi → Ml → Int32 → Int32 → Int32 → Int32 → Int32 → Option (Int32 × Mi × Ml)) (M : Mi) (L : Ml) (x2 : Int32) (x3 : Int32) (x5 : Int32) (x6 : Int32) (s0 : Int32) (s1 : Int32) : Option (Int32 × Mi × Ml) :=
  (kf15 M L x2 x3 ((s0 ||| s1)) x5 ((x6 + (1 : Int32))))
def F_X1_passMinutes_k41 (E : Ev) (c1 : Nat) (kf15 : Mi → Ml → Int32 → Int32 → Int32 → Int32 → Int32 → Option (Int32 × Mi × Ml)) (M : Mi) (L : Ml) (x2 : Int32) (x3 : Int32) (x5 : Int32) (x6 : Int32) (s0 : Int32) (s3 : Int32) (s4 : Int32) : Option (Int32 × Mi × Ml) :=
  ((F_X1_passOne E c1 M L s3 s4).bind fun r41 =>
  (if r41.1 = 0 then (F_X1_passMinutes_k55 E c1 kf15 r41.2.1 r41.2.2 x2 x3 x5 x6 s0 ((0 : Int32))) else
 (F_X1_passMinutes_k55 E c1 kf15 r41.2.1 r41.2.2 x2 x3 x5 x6 s0 ((ishl (1 : Int32) x6)))))
def F_X1_passMinutes_k15 (E : Ev) (c1 : Nat) (kf6 : Mi → Ml → Int32 → Int32 → Int32 → Int32 → Option (Int32 × Mi × Ml)) : Nat → Mi → Ml → Int32 → Int32 → Int32 → Int32 → Int32 → Option (Int32 × Mi × Ml)
  | 0, _, _, _, _, _, _, _ => none
  | n + 1, M, L, x2, x3, x4, x5, x6 =>
  (if (M c1 3) ≤ x6 then (kf6 ((up2 M c1 2 ((M c1 2) + (1 : Int32)))) L x2 x3 x4 ((x5 + (1 : Int32)))) else
 (if x6 = x3 then (F_X1_passMinutes_k41 E c1 (F_X1_passMinutes_k15 E c1 kf6 n) M L x2 x3 x5 x6 x4 x6 ((1 : Int32))) else
  (F_X1_passMinutes_k41 E c1 (F_X1_passMinutes_k15 E c1 kf6 n) M L x2 x3 x5 x6 x4 x6 ((0 : Int32)))))
def F_X1_passMinutes_k6 (E : Ev) (c1 : Nat) : Nat → Mi → Ml → Int32 → Int32 → Int32 → Int32 → Option (Int32 × Mi × Ml)
  | 0, _, _, _, _, _, _ => none
  | n + 1, M, L, x2, x3, x4, x5 =>
  (if x2 ≤ x5 then (some (x4, M, L)) else
 (F_X1_passMinutes_k15 E c1 (F_X1_passMinutes_k6 E c1 n) FU M L x2 x3 x4 x5 ((0 : Int32))))
def F_X1_passMinutes (E : Ev) (c1 : Nat) (M : Mi) (L : Ml) (x2 : Int32) (x3 : Int32) : Option (Int32 × Mi × Ml) :=
  (F_X1_passMinutes_k6 E c1 FU M L x2 x3 ((0 : Int32)) ((0 : Int32)))
def F_X5_minute (E : Ev) (M : Mi) (L : Ml) : Option (Int32 × Mi × Ml) :=
  (if (M 1 2) < (999 : Int32) then ((F_X1_passMinutes E 1 M L (1 : Int32) (-1 : Int32)).bind fun r26 =>
   (some (r26.1, r26.2.1, r26.2.2))) else
 (some ((-3 : Int32), M, L)))
def F_X0_become (b : Nat) (c1 : Nat) (M : Mi) (L : Ml) : Option (Mi × Ml) :=
  (if cpok (0 : Int32) (0 : Int32) (5 : Int32) 5 5 = true then
  (if cpok (0 : Int32) (0 : Int32) (5 : Int32) 5 5 = true then
  (if cpok (0 : Int32) (0 : Int32) (5 : Int32) 5 5 = true then
  (if cpok (0 : Int32) (0 : Int32) (5 : Int32) 5 5 = true then
  (some ((upr (upr (upr (upr (up2 (up2 (up2 M b 2 (M c1 2)) b 3 ((up2 M b 2 (M c1 2)) c1 3)) b 4 ((up2 (up2 M b 2 (M c1 2)) b 3 ((up2 M b 2 (M c1 2)) c1 3)) c1 4)) (b + 1) (va_cpy ((up2 (up2 (up2 M b 2 (M c1 2)) b 3 ((up2 M b 2 (M c1 2)) c1 3)) b 4 ((up2 (up2 M b 2 (M c1 2)) b 3 ((up2 M b 2 (M c1 2)) c1 3)) c1 4)) (c1 + 1)) ((up2 (up2 (up2 M b 2 (M c1 2)) b 3 ((up2 M b 2 (M c1 2)) c1 3)) b 4 ((up2 (up2 M b 2 (M c1 2)) b 3 ((up2 M b 2 (M c1 2)) c1 3)) c1 4)) (b + 1)) (Int32.toNatClampNeg (0 : Int32)) (Int32.toNatClampNeg (0 : Int32)) (Int32.toNatClampNeg (5 : Int32)))) (b + 2) (va_cpy ((upr (up2 (up2 (up2 M b 2 (M c1 2)) b 3 ((up2 M b 2 (M c1 2)) c1 3)) b 4 ((up2 (up2 M b 2 (M c1 2)) b 3 ((up2 M b 2 (M c1 2)) c1 3)) c1 4)) (b + 1) (va_cpy ((up2 (up2 (up2 M b 2 (M c1 2)) b 3 ((up2 M b 2 (M c1 2)) c1 3)) b 4 ((up2 (up2 M b 2 (M c1 2)) b 3 ((up2 M b 2 (M c1 2)) c1 3)) c1 4)) (c1 + 1)) ((up2 (up2 (up2 M b 2 (M c1 2)) b 3 ((up2 M b 2 (M c1 2)) c1 3)) b 4 ((up2 (up2 M b 2 (M c1 2)) b 3 ((up2 M b 2 (M c1 2)) c1 3)) c1 4)) (b + 1)) (Int32.toNatClampNeg (0 : Int32)) (Int32.toNatClampNeg (0 : Int32)) (Int32.toNatClampNeg (5 : Int32)))) (c1 + 2)) ((upr (up2 (up2 (up2 M b 2 (M c1 2)) b 3 ((up2 M b 2 (M c1 2)) c1 3)) b 4 ((up2 (up2 M b 2 (M c1 2)) b 3 ((up2 M b 2 (M c1 2)) c1 3)) c1 4)) (b + 1) (va_cpy ((up2 (up2 (up2 M b 2 (M c1 2)) b 3 ((up2 M b 2 (M c1 2)) c1 3)) b 4 ((up2 (up2 M b 2 (M c1 2)) b 3 ((up2 M b 2 (M c1 2)) c1 3)) c1 4)) (c1 + 1)) ((up2 (up2 (up2 M b 2 (M c1 2)) b 3 ((up2 M b 2 (M c1 2)) c1 3)) b 4 ((up2 (up2 M b 2 (M c1 2)) b 3 ((up2 M b 2 (M c1 2)) c1 3)) c1 4)) (b + 1)) (Int32.toNatClampNeg (0 : Int32)) (Int32.toNatClampNeg (0 : Int32)) (Int32.toNatClampNeg (5 : Int32)))) (b + 2)) (Int32.toNatClampNeg (0 : Int32)) (Int32.toNatClampNeg (0 : Int32)) (Int32.toNatClampNeg (5 : Int32)))) (b + 3) (va_cpy ((upr (upr (up2 (up2 (up2 M b 2 (M c1 2)) b 3 ((up2 M b 2 (M c1 2)) c1 3)) b 4 ((up2 (up2 M b 2 (M c1 2)) b 3 ((up2 M b 2 (M c1 2)) c1 3)) c1 4)) (b + 1) (va_cpy ((up2 (up2 (up2 M b 2 (M c1 2)) b 3 ((up2 M b 2 (M c1 2)) c1 3)) b 4 ((up2 (up2 M b 2 (M c1 2)) b 3 ((up2 M b 2 (M c1 2)) c1 3)) c1 4)) (c1 + 1)) ((up2 (up2 (up2 M b 2 (M c1 2)) b 3 ((up2 M b 2 (M c1 2)) c1 3)) b 4 ((up2 (up2 M b 2 (M c1 2)) b 3 ((up2 M b 2 (M c1 2)) c1 3)) c1 4)) (b + 1)) (Int32.toNatClampNeg (0 : Int32)) (Int32.toNatClampNeg (0 : Int32)) (Int32.toNatClampNeg (5 : Int32)))) (b + 2) (va_cpy ((upr (up2 (up2 (up2 M b 2 (M c1 2)) b 3 ((up2 M b 2 (M c1 2)) c1 3)) b 4 ((up2 (up2 M b 2 (M c1 2)) b 3 ((up2 M b 2 (M c1 2)) c1 3)) c1 4)) (b + 1) (va_cpy ((up2 (up2 (up2 M b 2 (M c1 2)) b 3 ((up2 M b 2 (M c1 2)) c1 3)) b 4 ((up2 (up2 M b 2 (M c1 2)) b 3 ((up2 M b 2 (M c1 2)) c1 3)) c1 4)) (c1 + 1)) ((up2 (up2 (up2 M b 2 (M c1 2)) b 3 ((up2 M b 2 (M c1 2)) c1 3)) b 4 ((up2 (up2 M b 2 (M c1 2)) b 3 ((up2 M b 2 (M c1 2)) c1 3)) c1 4)) (b + 1)) (Int32.toNatClampNeg (0 : Int32)) (Int32.toNatClampNeg (0 : Int32)) (Int32.toNatClampNeg (5 : Int32)))) (c1 + 2)) ((upr (up2 (up2 (up2 M b 2 (M c1 2)) b 3 ((up2 M b 2 (M c1 2)) c1 3)) b 4 ((up2 (up2 M b 2 (M c1 2)) b 3 ((up2 M b 2 (M c1 2)) c1 3)) c1 4)) (b + 1) (va_cpy ((up2 (up2 (up2 M b 2 (M c1 2)) b 3 ((up2 M b 2 (M c1 2)) c1 3)) b 4 ((up2 (up2 M b 2 (M c1 2)) b 3 ((up2 M b 2 (M c1 2)) c1 3)) c1 4)) (c1 + 1)) ((up2 (up2 (up2 M b 2 (M c1 2)) b 3 ((up2 M b 2 (M c1 2)) c1 3)) b 4 ((up2 (up2 M b 2 (M c1 2)) b 3 ((up2 M b 2 (M c1 2)) c1 3)) c1 4)) (b + 1)) (Int32.toNatClampNeg (0 : Int32)) (Int32.toNatClampNeg (0 : Int32)) (Int32.toNatClampNeg (5 : Int32)))) (b + 2)) (Int32.toNatClampNeg (0 : Int32)) (Int32.toNatClampNeg (0 : Int32)) (Int32.toNatClampNeg (5 : Int32)))) (c1 + 3)) ((upr (upr (up2 (up2 (up2 M b 2 (M c1 2)) b 3 ((up2 M b 2 (M c1 2)) c1 3)) b 4 ((up2 (up2 M b 2 (M c1 2)) b 3 ((up2 M b 2 (M c1 2)) c1 3)) c1 4)) (b + 1) (va_cpy ((up2 (up2 (up2 M b 2 (M c1 2)) b 3 ((up2 M b 2 (M c1 2)) c1 3)) b 4 ((up2 (up2 M b 2 (M c1 2)) b 3 ((up2 M b 2 (M c1 2)) c1 3)) c1 4)) (c1 + 1)) ((up2 (up2 (up2 M b 2 (M c1 2)) b 3 ((up2 M b 2 (M c1 2)) c1 3)) b 4 ((up2 (up2 M b 2 (M c1 2)) b 3 ((up2 M b 2 (M c1 2)) c1 3)) c1 4)) (b + 1)) (Int32.toNatClampNeg (0 : Int32)) (Int32.toNatClampNeg (0 : Int32)) (Int32.toNatClampNeg (5 : Int32)))) (b + 2) (va_cpy ((upr (up2 (up2 (up2 M b 2 (M c1 2)) b 3 ((up2 M b 2 (M c1 2)) c1 3)) b 4 ((up2 (up2 M b 2 (M c1 2)) b 3 ((up2 M b 2 (M c1 2)) c1 3)) c1 4)) (b + 1) (va_cpy ((up2 (up2 (up2 M b 2 (M c1 2)) b 3 ((up2 M b 2 (M c1 2)) c1 3)) b 4 ((up2 (up2 M b 2 (M c1 2)) b 3 ((up2 M b 2 (M c1 2)) c1 3)) c1 4)) (c1 + 1)) ((up2 (up2 (up2 M b 2 (M c1 2)) b 3 ((up2 M b 2 (M c1 2)) c1 3)) b 4 ((up2 (up2 M b 2 (M c1 2)) b 3 ((up2 M b 2 (M c1 2)) c1 3)) c1 4)) (b + 1)) (Int32.toNatClampNeg (0 : Int32)) (Int32.toNatClampNeg (0 : Int32)) (Int32.toNatClampNeg (5 : Int32)))) (c1 + 2)) ((upr (up2 (up2 (up2 M b 2 (M c1 2)) b 3 ((up2 M b 2 (M c1 2)) c1 3)) b 4 ((up2 (up2 M b 2 (M c1 2)) b 3 ((up2 M b 2 (M c1 2)) c1 3)) c1 4)) (b + 1) (va_cpy ((up2 (up2 (up2 M b 2 (M c1 2)) b 3 ((up2 M b 2 (M c1 2)) c1 3)) b 4 ((up2 (up2 M b 2 (M c1 2)) b 3 ((up2 M b 2 (M c1 2)) c1 3)) c1 4)) (c1 + 1)) ((up2 (up2 (up2 M b 2 (M c1 2)) b 3 ((up2 M b 2 (M c1 2)) c1 3)) b 4 ((up2 (up2 M b 2 (M c1 2)) b 3 ((up2 M b 2 (M c1 2)) c1 3)) c1 4)) (b + 1)) (Int32.toNatClampNeg (0 : Int32)) (Int32.toNatClampNeg (0 : Int32)) (Int32.toNatClampNeg (5 : Int32)))) (b + 2)) (Int32.toNatClampNeg (0 : Int32)) (Int32.toNatClampNeg (0 : Int32)) (Int32.toNatClampNeg (5 : Int32)))) (b + 3)) (Int32.toNatClampNeg (0 : Int32)) (Int32.toNatClampNeg (0 : Int32)) (Int32.toNatClampNeg (5 : Int32)))) (b + 4) (va_cpy ((upr (upr (upr (up2 (up2 (up2 M b 2 (M c1 2)) b 3 ((up2 M b 2 (M c1 2)) c1 3)) b 4 ((up2 (up2 M b 2 (M c1 2)) b 3 ((up2 M b 2 (M c1 2)) c1 3)) c1 4)) (b + 1) (va_cpy ((up2 (up2 (up2 M b 2 (M c1 2)) b 3 ((up2 M b 2 (M c1 2)) c1 3)) b 4 ((up2 (up2 M b 2 (M c1 2)) b 3 ((up2 M b 2 (M c1 2)) c1 3)) c1 4)) (c1 + 1)) ((up2 (up2 (up2 M b 2 (M c1 2)) b 3 ((up2 M b 2 (M c1 2)) c1 3)) b 4 ((up2 (up2 M b 2 (M c1 2)) b 3 ((up2 M b 2 (M c1 2)) c1 3)) c1 4)) (b + 1)) (Int32.toNatClampNeg (0 : Int32)) (Int32.toNatClampNeg (0 : Int32)) (Int32.toNatClampNeg (5 : Int32)))) (b + 2) (va_cpy ((upr (up2 (up2 (up2 M b 2 (M c1 2)) b 3 ((up2 M b 2 (M c1 2)) c1 3)) b 4 ((up2 (up2 M b 2 (M c1 2)) b 3 ((up2 M b 2 (M c1 2)) c1 3)) c1 4)) (b + 1) (va_cpy ((up2 (up2 (up2 M b 2 (M c1 2)) b 3 ((up2 M b 2 (M c1 2)) c1 3)) b 4 ((up2 (up2 M b 2 (M c1 2)) b 3 ((up2 M b 2 (M c1 2)) c1 3)) c1 4)) (c1 + 1)) ((up2 (up2 (up2 M b 2 (M c1 2)) b 3 ((up2 M b 2 (M c1 2)) c1 3)) b 4 ((up2 (up2 M b 2 (M c1 2)) b 3 ((up2 M b 2 (M c1 2)) c1 3)) c1 4)) (b + 1)) (Int32.toNatClampNeg (0 : Int32)) (Int32.toNatClampNeg (0 : Int32)) (Int32.toNatClampNeg (5 : Int32)))) (c1 + 2)) ((upr (up2 (up2 (up2 M b 2 (M c1 2)) b 3 ((up2 M b 2 (M c1 2)) c1 3)) b 4 ((up2 (up2 M b 2 (M c1 2)) b 3 ((up2 M b 2 (M c1 2)) c1 3)) c1 4)) (b + 1) (va_cpy ((up2 (up2 (up2 M b 2 (M c1 2)) b 3 ((up2 M b 2 (M c1 2)) c1 3)) b 4 ((up2 (up2 M b 2 (M c1 2)) b 3 ((up2 M b 2 (M c1 2)) c1 3)) c1 4)) (c1 + 1)) ((up2 (up2 (up2 M b 2 (M c1 2)) b 3 ((up2 M b 2 (M c1 2)) c1 3)) b 4 ((up2 (up2 M b 2 (M c1 2)) b 3 ((up2 M b 2 (M c1 2)) c1 3)) c1 4)) (b + 1)) (Int32.toNatClampNeg (0 : Int32)) (Int32.toNatClampNeg (0 : Int32)) (Int32.toNatClampNeg (5 : Int32)))) (b + 2)) (Int32.toNatClampNeg (0 : Int32)) (Int32.toNatClampNeg (0 : Int32)) (Int32.toNatClampNeg (5 : Int32)))) (b + 3) (va_cpy ((upr (upr (up2 (up2 (up2 M b 2 (M c1 2)) b 3 ((up2 M b 2 (M c1 2)) c1 3)) b 4 ((up2 (up2 M b 2 (M c1 2)) b 3 ((up2 M b 2 (M c1 2)) c1 3)) c1 4)) (b + 1) (va_cpy ((up2 (up2 (up2 M b 2 (M c1 2)) b 3 ((up2 M b 2 (M c1 2)) c1 3)) b 4 ((up2 (up2 M b 2 (M c1 2)) b 3 ((up2 M b 2 (M c1 2)) c1 3)) c1 4)) (c1 + 1)) ((up2 (up2 (up2 M b 2 (M c1 2)) b 3 ((up2 M b 2 (M c1 2)) c1 3)) b 4 ((up2 (up2 M b 2 (M c1 2)) b 3 ((up2 M b 2 (M c1 2)) c1 3)) c1 4)) (b + 1)) (Int32.toNatClampNeg (0 : Int32)) (Int32.toNatClampNeg (0 : Int32)) (Int32.toNatClampNeg (5 : Int32)))) (b + 2) (va_cpy ((upr (up2 (up2 (up2 M b 2 (M c1 2)) b 3 ((up2 M b 2 (M c1 2)) c1 3)) b 4 ((up2 (up2 M b 2 (M c1 2)) b 3 ((up2 M b 2 (M c1 2)) c1 3)) c1 4)) (b + 1) (va_cpy ((up2 (up2 (up2 M b 2 (M c1 2)) b 3 ((up2 M b 2 (M c1 2)) c1 3)) b 4 ((up2 (up2 M b 2 (M c1 2)) b 3 ((up2 M b 2 (M c1 2)) c1 3)) c1 4)) (c1 + 1)) ((up2 (up2 (up2 M b 2 (M c1 2)) b 3 ((up2 M b 2 (M c1 2)) c1 3)) b 4 ((up2 (up2 M b 2 (M c1 2)) b 3 ((up2 M b 2 (M c1 2)) c1 3)) c1 4)) (b + 1)) (Int32.toNatClampNeg (0 : Int32)) (Int32.toNatClampNeg (0 : Int32)) (Int32.toNatClampNeg (5 : Int32)))) (c1 + 2)) ((upr (up2 (up2 (up2 M b 2 (M c1 2)) b 3 ((up2 M b 2 (M c1 2)) c1 3)) b 4 ((up2 (up2 M b 2 (M c1 2)) b 3 ((up2 M b 2 (M c1 2)) c1 3)) c1 4)) (b + 1) (va_cpy ((up2 (up2 (up2 M b 2 (M c1 2)) b 3 ((up2 M b 2 (M c1 2)) c1 3)) b 4 ((up2 (up2 M b 2 (M c1 2)) b 3 ((up2 M b 2 (M c1 2)) c1 3)) c1 4)) (c1 + 1)) ((up2 (up2 (up2 M b 2 (M c1 2)) b 3 ((up2 M b 2 (M c1 2)) c1 3)) b 4 ((up2 (up2 M b 2 (M c1 2)) b 3 ((up2 M b 2 (M c1 2)) c1 3)) c1 4)) (b + 1)) (Int32.toNatClampNeg (0 : Int32)) (Int32.toNatClampNeg (0 : Int32)) (Int32.toNatClampNeg (5 : Int32)))) (b + 2)) (Int32.toNatClampNeg (0 : Int32)) (Int32.toNatClampNeg (0 : Int32)) (Int32.toNatClampNeg (5 : Int32)))) (c1 + 3)) ((upr (upr (up2 (up2 (up2 M b 2 (M c1 2)) b 3 ((up2 M b 2 (M c1 2)) c1 3)) b 4 ((up2 (up2 M b 2 (M c1 2)) b 3 ((up2 M b 2 (M c1 2)) c1 3)) c1 4)) (b + 1) (va_cpy ((up2 (up2 (up2 M b 2 (M c1 2)) b 3 ((up2 M b 2 (M c1 2)) c1 3)) b 4 ((up2 (up2 M b 2 (M c1 2)) b 3 ((up2 M b 2 (M c1 2)) c1 3)) c1 4)) (c1 + 1)) ((up2 (up2 (up2 M b 2 (M c1 2)) b 3 ((up2 M b 2 (M c1 2)) c1 3)) b 4 ((up2 (up2 M b 2 (M c1 2)) b 3 ((up2 M b 2 (M c1 2)) c1 3)) c1 4)) (b + 1)) (Int32.toNatClampNeg (0 : Int32)) (Int32.toNatClampNeg (0 : Int32)) (Int32.toNatClampNeg (5 : Int32)))) (b + 2) (va_cpy ((upr (up2 (up2 (up2 M b 2 (M c1 2)) b 3 ((up2 M b 2 (M c1 2)) c1 3)) b 4 ((up2 (up2 M b 2 (M c1 2)) b 3 ((up2 M b 2 (M c1 2)) c1 3)) c1 4)) (b + 1) (va_cpy ((up2 (up2 (up2 M b 2 (M c1 2)) b 3 ((up2 M b 2 (M c1 2)) c1 3)) b 4 ((up2 (up2 M b 2 (M c1 2)) b 3 ((up2 M b 2 (M c1 2)) c1 3)) c1 4)) (c1 + 1)) ((up2 (up2 (up2 M b 2 (M c1 2)) b 3 ((up2 M b 2 (M c1 2)) c1 3)) b 4 ((up2 (up2 M b 2 (M c1 2)) b 3 ((up2 M b 2 (M c1 2)) c1 3)) c1 4)) (b + 1)) (Int32.toNatClampNeg (0 : Int32)) (Int32.toNatClampNeg (0 : Int32)) (Int32.toNatClampNeg (5 : Int32)))) (c1 + 2)) ((upr (up2 (up2 (up2 M b 2 (M c1 2)) b 3 ((up2 M b 2 (M c1 2)) c1 3)) b 4 ((up2 (up2 M b 2 (M c1 2)) b 3 ((up2 M b 2 (M c1 2)) c1 3)) c1 4)) (b + 1) (va_cpy ((up2 (up2 (up2 M b 2 (M c1 2)) b 3 ((up2 M b 2 (M c1 2)) c1 3)) b 4 ((up2 (up2 M b 2 (M c1 2)) b 3 ((up2 M b 2 (M c1 2)) c1 3)) c1 4)) (c1 + 1)) ((up2 (up2 (up2 M b 2 (M c1 2)) b 3 ((up2 M b 2 (M c1 2)) c1 3)) b 4 ((up2 (up2 M b 2 (M c1 2)) b 3 ((up2 M b 2 (M c1 2)) c1 3)) c1 4)) (b + 1)) (Int32.toNatClampNeg (0 : Int32)) (Int32.toNatClampNeg (0 : Int32)) (Int32.toNatClampNeg (5 : Int32)))) (b + 2)) (Int32.toNatClampNeg (0 : Int32)) (Int32.toNatClampNeg (0 : Int32)) (Int32.toNatClampNeg (5 : Int32)))) (b + 3)) (Int32.toNatClampNeg (0 : Int32)) (Int32.toNatClampNeg (0 : Int32)) (Int32.toNatClampNeg (5 : Int32)))) (c1 + 4)) ((upr (upr (upr (up2 (up2 (up2 M b 2 (M c1 2)) b 3 ((up2 M b 2 (M c1 2)) c1 3)) b 4 ((up2 (up2 M b 2 (M c1 2)) b 3 ((up2 M b 2 (M c1 2)) c1 3)) c1 4)) (b + 1) (va_cpy ((up2 (up2 (up2 M b 2 (M c1 2)) b 3 ((up2 M b 2 (M c1 2)) c1 3)) b 4 ((up2 (up2 M b 2 (M c1 2)) b 3 ((up2 M b 2 (M c1 2)) c1 3)) c1 4)) (c1 + 1)) ((up2 (up2 (up2 M b 2 (M c1 2)) b 3 ((up2 M b 2 (M c1 2)) c1 3)) b 4 ((up2 (up2 M b 2 (M c1 2)) b 3 ((up2 M b 2 (M c1 2)) c1 3)) c1 4)) (b + 1)) (Int32.toNatClampNeg (0 : Int32)) (Int32.toNatClampNeg (0 : Int32)) (Int32.toNatClampNeg (5 : Int32)))) (b + 2) (va_cpy ((upr (up2 (up2 (up2 M b 2 (M c1 2)) b 3 ((up2 M b 2 (M c1 2)) c1 3)) b 4 ((up2 (up2 M b 2 (M c1 2)) b 3 ((up2 M b 2 (M c1 2)) c1 3)) c1 4)) (b + 1) (va_cpy ((up2 (up2 (up2 M b 2 (M c1 2)) b 3 ((up2 M b 2 (M c1 2)) c1 3)) b 4 ((up2 (up2 M b 2 (M c1 2)) b 3 ((up2 M b 2 (M c1 2)) c1 3)) c1 4)) (c1 + 1)) ((up2 (up2 (up2 M b 2 (M c1 2)) b 3 ((up2 M b 2 (M c1 2)) c1 3)) b 4 ((up2 (up2 M b 2 (M c1 2)) b 3 ((up2 M b 2 (M c1 2)) c1 3)) c1 4)) (b + 1)) (Int32.toNatClampNeg (0 : Int32)) (Int32.toNatClampNeg (0 : Int32)) (Int32.toNatClampNeg (5 : Int32)))) (c1 + 2)) ((upr (up2 (up2 (up2 M b 2 (M c1 2)) b 3 ((up2 M b 2 (M c1 2)) c1 3)) b 4 ((up2 (up2 M b 2 (M c1 2)) b 3 ((up2 M b 2 (M c1 2)) c1 3)) c1 4)) (b + 1) (va_cpy ((up2 (up2 (up2 M b 2 (M c1 2)) b 3 ((up2 M b 2 (M c1 2)) c1 3)) b 4 ((up2 (up2 M b 2 (M c1 2)) b 3 ((up2 M b 2 (M c1 2)) c1 3)) c1 4)) (c1 + 1)) ((up2 (up2 (up2 M b 2 (M c1 2)) b 3 ((up2 M b 2 (M c1 2)) c1 3)) b 4 ((up2 (up2 M b 2 (M c1 2)) b 3 ((up2 M b 2 (M c1 2)) c1 3)) c1 4)) (b + 1)) (Int32.toNatClampNeg (0 : Int32)) (Int32.toNatClampNeg (0 : Int32)) (Int32.toNatClampNeg (5 : Int32)))) (b + 2)) (Int32.toNatClampNeg (0 : Int32)) (Int32.toNatClampNeg (0 : Int32)) (Int32.toNatClampNeg (5 : Int32)))) (b + 3) (va_cpy ((upr (upr (up2 (up2 (up2 M b 2 (M c1 2)) b 3 ((up2 M b 2 (M c1 2)) c1 3)) b 4 ((up2 (up2 M b 2 (M c1 2)) b 3 ((up2 M b 2 (M c1 2)) c1 3)) c1 4)) (b + 1) (va_cpy ((up2 (up2 (up2 M b 2 (M c1 2)) b 3 ((up2 M b 2 (M c1 2)) c1 3)) b 4 ((up2 (up2 M b 2 (M c1 2)) b 3 ((up2 M b 2 (M c1 2)) c1 3)) c1 4)) (c1 + 1)) ((up2 (up2 (up2 M b 2 (M c1 2)) b 3 ((up2 M b 2 (M c1 2)) c1 3)) b 4 ((up2 (up2 M b 2 (M c1 2)) b 3 ((up2 M b 2 (M c1 2)) c1 3)) c1 4)) (b + 1)) (Int32.toNatClampNeg (0 : Int32)) (Int32.toNatClampNeg (0 : Int32)) (Int32.toNatClampNeg (5 : Int32)))) (b + 2) (va_cpy ((upr (up2 (up2 (up2 M b 2 (M c1 2)) b 3 ((up2 M b 2 (M c1 2)) c1 3)) b 4 ((up2 (up2 M b 2 (M c1 2)) b 3 ((up2 M b 2 (M c1 2)) c1 3)) c1 4)) (b + 1) (va_cpy ((up2 (up2 (up2 M b 2 (M c1 2)) b 3 ((up2 M b 2 (M c1 2)) c1 3)) b 4 ((up2 (up2 M b 2 (M c1 2)) b 3 ((up2 M b 2 (M c1 2)) c1 3)) c1 4)) (c1 + 1)) ((up2 (up2 (up2 M b 2 (M c1 2)) b 3 ((up2 M b 2 (M c1 2)) c1 3)) b 4 ((up2 (up2 M b 2 (M c1 2)) b 3 ((up2 M b 2 (M c1 2)) c1 3)) c1 4)) (b + 1)) (Int32.toNatClampNeg (0 : Int32)) (Int32.toNatClampNeg (0 : Int32)) (Int32.toNatClampNeg (5 : Int32)))) (c1 + 2)) ((upr (up2 (up2 (up2 M b 2 (M c1 2)) b 3 ((up2 M b 2 (M c1 2)) c1 3)) b 4 ((up2 (up2 M b 2 (M c1 2)) b 3 ((up2 M b 2 (M c1 2)) c1 3)) c1 4)) (b + 1) (va_cpy ((up2 (up2 (up2 M b 2 (M c1 2)) b 3 ((up2 M b 2 (M c1 2)) c1 3)) b 4 ((up2 (up2 M b 2 (M c1 2)) b 3 ((up2 M b 2 (M c1 2)) c1 3)) c1 4)) (c1 + 1)) ((up2 (up2 (up2 M b 2 (M c1 2)) b 3 ((up2 M b 2 (M c1 2)) c1 3)) b 4 ((up2 (up2 M b 2 (M c1 2)) b 3 ((up2 M b 2 (M c1 2)) c1 3)) c1 4)) (b + 1)) (Int32.toNatClampNeg (0 : Int32)) (Int32.toNatClampNeg (0 : Int32)) (Int32.toNatClampNeg (5 : Int32)))) (b + 2)) (Int32.toNatClampNeg (0 : Int32)) (Int32.toNatClampNeg (0 : Int32)) (Int32.toNatClampNeg (5 : Int32)))) (c1 + 3)) ((upr (upr (up2 (up2 (up2 M b 2 (M c1 2)) b 3 ((up2 M b 2 (M c1 2)) c1 3)) b 4 ((up2 (up2 M b 2 (M c1 2)) b 3 ((up2 M b 2 (M c1 2)) c1 3)) c1 4)) (b + 1) (va_cpy ((up2 (up2 (up2 M b 2 (M c1 2)) b 3 ((up2 M b 2 (M c1 2)) c1 3)) b 4 ((up2 (up2 M b 2 (M c1 2)) b 3 ((up2 M b 2 (M c1 2)) c1 3)) c1 4)) (c1 + 1)) ((up2 (up2 (up2 M b 2 (M c1 2)) b 3 ((up2 M b 2 (M c1 2)) c1 3)) b 4 ((up2 (up2 M b 2 (M c1 2)) b 3 ((up2 M b 2 (M c1 2)) c1 3)) c1 4)) (b + 1)) (Int32.toNatClampNeg (0 : Int32)) (Int32.toNatClampNeg (0 : Int32)) (Int32.toNatClampNeg (5 : Int32)))) (b + 2) (va_cpy ((upr (up2 (up2 (up2 M b 2 (M c1 2)) b 3 ((up2 M b 2 (M c1 2)) c1 3)) b 4 ((up2 (up2 M b 2 (M c1 2)) b 3 ((up2 M b 2 (M c1 2)) c1 3)) c1 4)) (b + 1) (va_cpy ((up2 (up2 (up2 M b 2 (M c1 2)) b 3 ((up2 M b 2 (M c1 2)) c1 3)) b 4 ((up2 (up2 M b 2 (M c1 2)) b 3 ((up2 M b 2 (M c1 2)) c1 3)) c1 4)) (c1 + 1)) ((up2 (up2 (up2 M b 2 (M c1 2)) b 3 ((up2 M b 2 (M c1 2)) c1 3)) b 4 ((up2 (up2 M b 2 (M c1 2)) b 3 ((up2 M b 2 (M c1 2)) c1 3)) c1 4)) (b + 1)) (Int32.toNatClampNeg (0 : Int32)) (Int32.toNatClampNeg (0 : Int32)) (Int32.toNatClampNeg (5 : Int32)))) (c1 + 2)) ((upr (up2 (up2 (up2 M b 2 (M c1 2)) b 3 ((up2 M b 2 (M c1 2)) c1 3)) b 4 ((up2 (up2 M b 2 (M c1 2)) b 3 ((up2 M b 2 (M c1 2)) c1 3)) c1 4)) (b + 1) (va_cpy ((up2 (up2 (up2 M b 2 (M c1 2)) b 3 ((up2 M b 2 (M c1 2)) c1 3)) b 4 ((up2 (up2 M b 2 (M c1 2)) b 3 ((up2 M b 2 (M c1 2)) c1 3)) c1 4)) (c1 + 1)) ((up2 (up2 (up2 M b 2 (M c1 2)) b 3 ((up2 M b 2 (M c1 2)) c1 3)) b 4 ((up2 (up2 M b 2 (M c1 2)) b 3 ((up2 M b 2 (M c1 2)) c1 3)) c1 4)) (b + 1)) (Int32.toNatClampNeg (0 : Int32)) (Int32.toNatClampNeg (0 : Int32)) (Int32.toNatClampNeg (5 : Int32)))) (b + 2)) (Int32.toNatClampNeg (0 : Int32)) (Int32.toNatClampNeg (0 : Int32)) (Int32.toNatClampNeg (5 : Int32)))) (b + 3)) (Int32.toNatClampNeg (0 : Int32)) (Int32.toNatClampNeg (0 : Int32)) (Int32.toNatClampNeg (5 : Int32)))) (b + 4)) (Int32.toNatClampNeg (0 : Int32)) (Int32.toNatClampNeg (0 : Int32)) (Int32.toNatClampNeg (5 : Int32)))), (up2 (up2 L b 0 (L c1 0)) b 1 ((up2 L b 0 (L c1 0)) c1 1)))) else none) else none) else none) else none)
def F_X0_howManyFound_k27 (b : Nat) (M : Mi) (L : Ml) (kf4 : Int32 → Int32 → Int32 → Option (Int32)) (x1 : Int32) (x3 : Int32) (s0 : Int32) (s1 : Int32) : Option (Int32) :=
  (kf4 x1 ((s0 + s1)) ((x3 + (1 : Int32))))
def F_X0_howManyFound_k4 (b : Nat) (M : Mi) (L : Ml) : Nat → Int32 → Int32 → Int32 → Option (Int32)
  | 0, _, _, _ => none
  | n + 1, x1, x2, x3 =>
  (if (M b 3) ≤ x3 then (some x2) else
 ((F_X0_foundOf b M L x3).bind fun v15 =>
   (if v15 = x1 then (F_X0_howManyFound_k27 b M L (F_X0_howManyFound_k4 b M L n) x1 x3 x2 ((1 : Int32))) else
  (F_X0_howManyFound_k27 b M L (F_X0_howManyFound_k4 b M L n) x1 x3 x2 ((0 : Int32))))))
def F_X0_howManyFound (b : Nat) (M : Mi) (L : Ml) (x1 : Int32) : Option (Int32) :=
  (F_X0_howManyFound_k4 b M L FU x1 ((0 : Int32)) ((0 : Int32)))
def F_X5_run (E : Ev) (M : Mi) (L : Ml) (x1 : Int32) (x2 : Int32) (x3 : Int32) : Option (Int32 × Mi × Ml) :=
  ((F_X5_isParty M L x1).bind fun v2 =>
  (if v2 = 0 then (some ((-2 : Int32), M, L)) else
 ((F_X5_isWithin x2 (40 : Int32)).bind fun v11 =>
   (if v11 = 0 then (some ((-2 : Int32), M, L)) else
  ((F_X5_isWithin x3 (3 : Int32)).bind fun v19 =>
    (if v19 = 0 then (some ((-2 : Int32), M, L)) else
   ((F_X0_become 6 1 M L).bind fun r36 =>
     ((F_X1_passMinutes E 6 r36.1 r36.2 x2 (-1 : Int32)).bind fun r49 =>
     (if x3 = 0 then (if ix x1 5 = true then
      (some ((r49.2.1 9 (Int32.toNatClampNeg x1)), r49.2.1, r49.2.2)) else none) else
    (if x3 = (1 : Int32) then (if ix x1 5 = true then
       (some ((r49.2.1 10 (Int32.toNatClampNeg x1)), r49.2.1, r49.2.2)) else none) else
     (if x3 = (2 : Int32) then ((F_X0_foundOf 6 r49.2.1 r49.2.2 x1).bind fun v92 =>
        (some (v92, r49.2.1, r49.2.2))) else
      ((F_X0_howManyFound 6 r49.2.1 r49.2.2 (1 : Int32)).bind fun v103 =>
        (some (v103, r49.2.1, r49.2.2))))))))))))))
def F_X5_call_k100 (E : Ev) (kf55 : Mi → Ml → Int32 → Int32 → Int32 → Int32 → Int32 → Int32 → Option (Int32 × Mi × Ml)) (M : Mi) (L : Ml) (x1 : Int32) (x2 : Int32) (x3 : Int32) (x4 : Int32) (x5 : Int32) (x6 : Int32) : Option (Int32 × Mi × Ml) :=
  (kf55 M L x1 x2 x3 x4 x5 ((x6 + (1 : Int32))))
def F_X5_call_k55 (E : Ev) : Nat → Mi → Ml → Int32 → Int32 → Int32 → Int32 → Int32 → Int32 → Option (Int32 × Mi × Ml)
  | 0, _, _, _, _, _, _, _, _ => none
  | n + 1, M, L, x1, x2, x3, x4, x5, x6 =>
  (if x2 < x6 then (if x3 = 0 then (some (x4, M, L)) else
  (some (x5, M, L))) else
 ((F_X1_passMinutes E 6 M L (1 : Int32) (-1 : Int32)).bind fun r71 =>
   ((F_X0_howManyFound 6 r71.2.1 r71.2.2 x1).bind fun v80 =>
   (if v80 ≤ x5 then (F_X5_call_k100 E (F_X5_call_k55 E n) r71.2.1 r71.2.2 x1 x2 x3 x4 x5 x6) else
  (F_X5_call_k100 E (F_X5_call_k55 E n) r71.2.1 r71.2.2 x1 x2 x3 x6 v80 x6)))))
def F_X5_call (E : Ev) (M : Mi) (L : Ml) (x1 : Int32) (x2 : Int32) (x3 : Int32) : Option (Int32 × Mi × Ml) :=
  ((F_X5_isWithin x1 (2 : Int32)).bind fun v2 =>
  (if v2 = 0 then (some ((-2 : Int32), M, L)) else
 ((F_X5_isWithin x2 (40 : Int32)).bind fun v11 =>
   (if v11 = 0 then (some ((-2 : Int32), M, L)) else
  ((F_X5_isWithin x3 (1 : Int32)).bind fun v19 =>
    (if v19 = 0 then (some ((-2 : Int32), M, L)) else
   ((F_X0_become 6 1 M L).bind fun r36 =>
     ((F_X0_howManyFound 6 r36.1 r36.2 x1).bind fun v47 =>
     (F_X5_call_k55 E FU r36.1 r36.2 x1 x2 x3 ((0 : Int32)) v47 ((1 : Int32)))))))))))
def F_X5_meet_k37 (E : Ev) : Nat → Mi → Ml → Int32 → Int32 → Int32 → Option (Int32 × Mi × Ml)
  | 0, _, _, _, _, _ => none
  | n + 1, M, L, x1, x2, x3 =>
  (if (60 : Int32) < x3 then (some ((-1 : Int32), M, L)) else
 (if ix x1 5 = true then
   (if ix x2 5 = true then
   (if (M 9 (Int32.toNatClampNeg x1)) = (M 9 (Int32.toNatClampNeg x2)) then (some (x3, M, L)) else
  ((F_X1_passMinutes E 6 M L (1 : Int32) (-1 : Int32)).bind fun r76 =>
    (F_X5_meet_k37 E n r76.2.1 r76.2.2 x1 x2 ((x3 + (1 : Int32)))))) else none) else none))
def F_X5_meet (E : Ev) (M : Mi) (L : Ml) (x1 : Int32) (x2 : Int32) : Option (Int32 × Mi × Ml) :=
  ((F_X5_isParty M L x1).bind fun v2 =>
  (if v2 = 0 then (some ((-2 : Int32), M, L)) else
 ((F_X5_isParty M L x2).bind fun v10 =>
   (if v10 = 0 then (some ((-2 : Int32), M, L)) else
  (if x1 = x2 then (some ((-2 : Int32), M, L)) else
   ((F_X0_become 6 1 M L).bind fun r32 =>
     (F_X5_meet_k37 E FU r32.1 r32.2 x1 x2 ((0 : Int32)))))))))
def F_X0_aLeapFurther_k68 (b : Nat) (M : Mi) (L : Ml) (kf6 : Int32 → Int64 → Int64 → Int32 → Option (Int64)) (x1 : Int32) (x2 : Int64) (x4 : Int64) (x6 : Int32) : Option (Int64) :=
  (kf6 x1 x2 x4 ((x6 + (1 : Int32))))
def F_X0_aLeapFurther_k59 (b : Nat) (M : Mi) (L : Ml) (kf16 : Int32 → Int64 → Int64 → Int32 → Int32 → Option (Int64)) (x1 : Int32) (x2 : Int64) (x6 : Int32) (x7 : Int32) (s0 : Int64) (s1 : Int64) : Option (Int64) :=
  (kf16 x1 x2 ((s0 ||| s1)) x6 ((x7 + (1 : Int32))))
def F_X0_aLeapFurther_k16 (b : Nat) (M : Mi) (L : Ml) (kf6 : Int32 → Int64 → Int64 → Int32 → Option (Int64)) : Nat → Int32 → Int64 → Int64 → Int32 → Int32 → Option (Int64)
  | 0, _, _, _, _, _ => none
  | n + 1, x1, x2, x4, x6, x7 =>
  (if (8 : Int32) ≤ x7 then (F_X0_aLeapFurther_k68 b M L kf6 x1 x2 x4 x6) else
 ((F_X5_isIn x2 x6).bind fun v26 =>
   (if v26 = 0 then (F_X0_aLeapFurther_k68 b M L kf6 x1 x2 x4 x6) else
  ((F_X0_landing b M L x1 x6 x7).bind fun v38 =>
    (if v38 = (-1 : Int32) then (F_X0_aLeapFurther_k59 b M L (F_X0_aLeapFurther_k16 b M L kf6 n) x1 x2 x6 x7 x4 ((0 : Int64))) else
   (F_X0_aLeapFurther_k59 b M L (F_X0_aLeapFurther_k16 b M L kf6 n) x1 x2 x6 x7 x4 ((lshl (1 : Int64) v38))))))))
def F_X0_aLeapFurther_k6 (b : Nat) (M : Mi) (L : Ml) : Nat → Int32 → Int64 → Int64 → Int32 → Option (Int64)
  | 0, _, _, _, _ => none
  | n + 1, x1, x2, x4, x6 =>
  (if (64 : Int32) ≤ x6 then (some x4) else
 (F_X0_aLeapFurther_k16 b M L (F_X0_aLeapFurther_k6 b M L n) FU x1 x2 x4 x6 ((0 : Int32))))
def F_X0_aLeapFurther (b : Nat) (M : Mi) (L : Ml) (x1 : Int32) (x2 : Int64) : Option (Int64) :=
  (F_X0_aLeapFurther_k6 b M L FU x1 x2 x2 ((0 : Int32)))
def F_X5_reached_k36 (M : Mi) (L : Ml) : Nat → Int32 → Int32 → Int64 → Int32 → Option (Int64)
  | 0, _, _, _, _ => none
  | n + 1, x1, x2, x3, x5 =>
  (if x2 ≤ x5 then (some x3) else
 ((F_X0_aLeapFurther 1 M L x1 x3).bind fun v48 =>
   (F_X5_reached_k36 M L n x1 x2 v48 ((x5 + (1 : Int32))))))
def F_X5_reached (M : Mi) (L : Ml) (x1 : Int32) (x2 : Int32) : Option (Int64) :=
  ((F_X5_isParty M L x1).bind fun v2 =>
  (if v2 = 0 then (some (-4611686018427387904 : Int64)) else
 ((F_X5_isWithin x2 (63 : Int32)).bind fun v11 =>
   (if v11 = 0 then (some (-4611686018427387904 : Int64)) else
  (if ix x1 5 = true then
    ((some (lshl (1 : Int64) (M 4 (Int32.toNatClampNeg x1)))).bind fun z32 =>
    (F_X5_reached_k36 M L FU x1 x2 z32 ((0 : Int32)))) else none)))))
def F_X5_fewest_k33 (M : Mi) (L : Ml) : Nat → Int32 → Int32 → Int64 → Int32 → Option (Int32)
  | 0, _, _, _, _ => none
  | n + 1, x1, x2, x3, x5 =>
  (if (63 : Int32) < x5 then (some (-1 : Int32)) else
 ((F_X5_isIn x3 x2).bind fun v42 =>
   (if v42 = 0 then ((F_X0_aLeapFurther 1 M L x1 x3).bind fun v57 =>
    (F_X5_fewest_k33 M L n x1 x2 v57 ((x5 + (1 : Int32))))) else
  (some x5))))
def F_X5_fewest (M : Mi) (L : Ml) (x1 : Int32) (x2 : Int32) : Option (Int32) :=
  ((F_X5_isParty M L x1).bind fun v2 =>
  (if v2 = 0 then (some (-2 : Int32)) else
 ((F_X5_isTile x2).bind fun v9 =>
   (if v9 = 0 then (some (-2 : Int32)) else
  (if ix x1 5 = true then
    ((some (lshl (1 : Int64) (M 4 (Int32.toNatClampNeg x1)))).bind fun z29 =>
    (F_X5_fewest_k33 M L FU x1 x2 z29 ((0 : Int32)))) else none)))))
def F_X5_foundWithHollow (E : Ev) (M : Mi) (L : Ml) (x1 : Int32) (x2 : Int32) (x3 : Int32) : Option (Int32 × Mi × Ml) :=
  ((F_X0_isHollow 1 M L x3).bind fun v5 =>
  (if v5 = 0 then ((F_X0_whoIsOn 1 M L x3).bind fun v16 =>
   (if v16 = 0 then ((F_X0_become 6 1 M L).bind fun r32 =>
    ((F_X1_passMinutes E 6 r32.1 (up2 r32.2 6 1 ((r32.2 6 1) ||| (lshl (1 : Int64) x3))) x2 (-1 : Int32)).bind fun r60 =>
    ((F_X0_howManyFound 6 r60.2.1 r60.2.2 x1).bind fun v69 =>
    (some (v69, r60.2.1, r60.2.2))))) else
  (some ((-1 : Int32), M, L)))) else
 (some ((-1 : Int32), M, L))))
def F_X5_foundWithOneStill (E : Ev) (M : Mi) (L : Ml) (x1 : Int32) (x2 : Int32) (x3 : Int32) : Option (Int32 × Mi × Ml) :=
  ((F_X0_become 6 1 M L).bind fun r8 =>
  ((F_X1_passMinutes E 6 r8.1 r8.2 x2 x3).bind fun r21 =>
  ((F_X0_howManyFound 6 r21.2.1 r21.2.2 x1).bind fun v30 =>
  (some (v30, r21.2.1, r21.2.2)))))
def F_X5_foundWithRed (M : Mi) (L : Ml) (x1 : Int32) (x2 : Int32) : Option (Int32 × Mi × Ml) :=
  ((F_X0_isRed 1 M L x2).bind fun v5 =>
  (if v5 = 0 then ((F_X0_isHollow 1 M L x2).bind fun v16 =>
   (if v16 = 0 then ((F_X0_howManyFound 11 M (up2 L 11 0 ((L 1 0) ||| (lshl (1 : Int64) x2))) x1).bind fun v47 =>
    (some (v47, M, (up2 L 11 0 ((L 1 0) ||| (lshl (1 : Int64) x2)))))) else
  (some ((-1 : Int32), M, L)))) else
 (some ((-1 : Int32), M, L))))
def F_X5_best_k153 (E : Ev) (kf90 : Mi → Ml → Int32 → Int32 → Int32 → Int32 → Int32 → Int32 → Int32 → Option (Int32 × Mi × Ml)) (M : Mi) (L : Ml) (x1 : Int32) (x2 : Int32) (x3 : Int32) (x4 : Int32) (x5 : Int32) (x6 : Int32) (x7 : Int32) : Option (Int32 × Mi × Ml) :=
  (kf90 M L x1 x2 x3 x4 x5 x6 ((x7 + (1 : Int32))))
def F_X5_best_k136 (E : Ev) (kf90 : Mi → Ml → Int32 → Int32 → Int32 → Int32 → Int32 → Int32 → Int32 → Option (Int32 × Mi × Ml)) (M : Mi) (L : Ml) (x1 : Int32) (x2 : Int32) (x3 : Int32) (x4 : Int32) (x5 : Int32) (x6 : Int32) (x7 : Int32) (s0 : Int32) : Option (Int32 × Mi × Ml) :=
  (if s0 ≤ x5 then (F_X5_best_k153 E kf90 M L x1 x2 x3 x4 x5 x6 x7) else
 (F_X5_best_k153 E kf90 M L x1 x2 x3 x7 s0 x6 x7))
def F_X5_best_k90 (E : Ev) : Nat → Mi → Ml → Int32 → Int32 → Int32 → Int32 → Int32 → Int32 → Int32 → Option (Int32 × Mi × Ml)
  | 0, _, _, _, _, _, _, _, _, _ => none
  | n + 1, M, L, x1, x2, x3, x4, x5, x6, x7 =>
  (if x6 ≤ x7 then (if (irm x3 (2 : Int32)) = 0 then (some (x4, M, L)) else
  (some (x5, M, L))) else
 (if (2 : Int32) ≤ x3 then (if (4 : Int32) ≤ x3 then ((F_X5_foundWithHollow E M L x1 x2 x7).bind fun r133 =>
     (F_X5_best_k136 E (F_X5_best_k90 E n) r133.2.1 r133.2.2 x1 x2 x3 x4 x5 x6 x7 r133.1)) else
   ((F_X5_foundWithRed M L x1 x7).bind fun r122 =>
     (F_X5_best_k136 E (F_X5_best_k90 E n) r122.2.1 r122.2.2 x1 x2 x3 x4 x5 x6 x7 r122.1))) else
  ((F_X5_foundWithOneStill E M L x1 x2 x7).bind fun r107 =>
    (F_X5_best_k136 E (F_X5_best_k90 E n) r107.2.1 r107.2.2 x1 x2 x3 x4 x5 x6 x7 r107.1))))
def F_X5_best_k85 (E : Ev) (M : Mi) (L : Ml) (x1 : Int32) (x2 : Int32) (x3 : Int32) (x4 : Int32) (x5 : Int32) (s0 : Int32) : Option (Int32 × Mi × Ml) :=
  (F_X5_best_k90 E FU M L x1 x2 x3 x4 x5 s0 ((0 : Int32)))
def F_X5_best (E : Ev) (M : Mi) (L : Ml) (x1 : Int32) (x2 : Int32) (x3 : Int32) : Option (Int32 × Mi × Ml) :=
  ((F_X5_isWithin x1 (2 : Int32)).bind fun v2 =>
  (if v2 = 0 then (some ((-2 : Int32), M, L)) else
 (if x2 < (1 : Int32) then (some ((-2 : Int32), M, L)) else
  (if (20 : Int32) < x2 then (some ((-2 : Int32), M, L)) else
   ((F_X5_isWithin x3 (5 : Int32)).bind fun v21 =>
     (if v21 = 0 then (some ((-2 : Int32), M, L)) else
    ((F_X0_become 11 1 M L).bind fun r38 =>
      ((F_X1_passMinutes E 11 r38.1 r38.2 x2 (-1 : Int32)).bind fun r51 =>
      ((F_X0_howManyFound 11 r51.2.1 r51.2.2 x1).bind fun v63 =>
      (if (2 : Int32) ≤ x3 then (F_X5_best_k85 E r51.2.1 r51.2.2 x1 x2 x3 ((-1 : Int32)) v63 ((64 : Int32))) else
     (F_X5_best_k85 E r51.2.1 r51.2.2 x1 x2 x3 ((-1 : Int32)) v63 ((r51.2.1 1 3)))))))))))))
def F_X5_inLowestTerms_k48 (x3 : Int32) (s0 : Int32) : Option (Int64) :=
  (if (if (1 : Int32) < x3 then x3 else (1 : Int32)) = 0 then none else
  (some (Int32.toInt64 (s0 / (if (1 : Int32) < x3 then x3 else (1 : Int32))))))
def F_X5_inLowestTerms_k39 (x0 : Int32) (x1 : Int32) (x2 : Int32) (x3 : Int32) : Option (Int64) :=
  (if x2 = 0 then (F_X5_inLowestTerms_k48 x3 x0) else
 (F_X5_inLowestTerms_k48 x3 x1))
def F_X5_inLowestTerms_k8 : Nat → Int32 → Int32 → Int32 → Int32 → Int32 → Int32 → Option (Int64)
  | 0, _, _, _, _, _, _ => none
  | n + 1, x0, x1, x2, x3, x4, x5 =>
  (if (64 : Int32) ≤ x5 then (F_X5_inLowestTerms_k39 x0 x1 x2 x3) else
 (if x4 = 0 then (F_X5_inLowestTerms_k39 x0 x1 x2 x3) else
  (if x4 = 0 then none else
    (F_X5_inLowestTerms_k8 n x0 x1 x2 x4 ((irm x3 x4)) ((x5 + (1 : Int32)))))))
def F_X5_inLowestTerms (x0 : Int32) (x1 : Int32) (x2 : Int32) : Option (Int64) :=
  (F_X5_inLowestTerms_k8 FU x0 x1 x2 x1 x0 ((0 : Int32)))
def F_X5_mean_k27 (M : Mi) (L : Ml) : Nat → Int32 → Int32 → Int32 → Option (Int64)
  | 0, _, _, _ => none
  | n + 1, x1, x2, x3 =>
  (if (M 1 3) ≤ x3 then ((F_X5_inLowestTerms x2 (M 1 3) x1).bind fun v65 =>
   (some v65)) else
 (if ix x3 5 = true then
   (F_X5_mean_k27 M L n x1 ((x2 + (M 5 (Int32.toNatClampNeg x3)))) ((x3 + (1 : Int32)))) else none))
def F_X5_mean (M : Mi) (L : Ml) (x1 : Int32) : Option (Int64) :=
  ((F_X5_isWithin x1 (1 : Int32)).bind fun v2 =>
  (if v2 = 0 then (some (-4611686018427387904 : Int64)) else
 (if (1 : Int32) ≤ (M 1 3) then (F_X5_mean_k27 M L FU x1 ((0 : Int32)) ((0 : Int32))) else
  (some (-4611686018427387904 : Int64)))))
def F_X5_firstOtherwise_k2 (E : Ev) (c1 : Nat) : Nat → Mi → Ml → Int32 → Int32 → Option (Int32 × Mi × Ml)
  | 0, _, _, _, _ => none
  | n + 1, M, L, x2, x3 =>
  (if (M c1 2) ≤ x3 then (some ((-1 : Int32), M, L)) else
 ((F_X1_passOne E 6 M L x2 (0 : Int32)).bind fun r20 =>
   (if ix x3 40 = true then
   (if ix x2 5 = true then
   (if ((up2 r20.2.1 6 2 ((r20.2.1 6 2) + (1 : Int32))) (c1 + 1) (Int32.toNatClampNeg x3)) = ((up2 r20.2.1 6 2 ((r20.2.1 6 2) + (1 : Int32))) 9 (Int32.toNatClampNeg x2)) then (F_X5_firstOtherwise_k2 E c1 n ((up2 r20.2.1 6 2 ((r20.2.1 6 2) + (1 : Int32)))) r20.2.2 x2 ((x3 + (1 : Int32)))) else
  (some (x3, (up2 r20.2.1 6 2 ((r20.2.1 6 2) + (1 : Int32))), r20.2.2))) else none) else none)))
def F_X5_firstOtherwise (E : Ev) (c1 : Nat) (M : Mi) (L : Ml) (x2 : Int32) : Option (Int32 × Mi × Ml) :=
  (F_X5_firstOtherwise_k2 E c1 FU M L x2 ((0 : Int32)))
def F_X5_bitsTold_k150 (E : Ev) (c1 : Nat) (kf50 : Mi → Ml → Int32 → Int32 → Int32 → Int32 → Int32 → Option (Int32 × Mi × Ml)) (M : Mi) (L : Ml) (x2 : Int32) (x3 : Int32) (x4 : Int32) (x5 : Int32) (x6 : Int32) : Option (Int32 × Mi × Ml) :=
  (kf50 M L x2 x3 x4 x5 ((x6 + (1 : Int32))))
def F_X5_bitsTold_k134 (E : Ev) (c1 : Nat) (kf50 : Mi → Ml → Int32 → Int32 → Int32 → Int32 → Int32 → Option (Int32 × Mi × Ml)) (M : Mi) (L : Ml) (x2 : Int32) (x3 : Int32) (x4 : Int32) (x5 : Int32) (x6 : Int32) (s2 : Int32) : Option (Int32 × Mi × Ml) :=
  ((F_X5_firstOtherwise E c1 M L s2).bind fun r134 =>
  (if r134.1 = (-1 : Int32) then (F_X5_bitsTold_k150 E c1 kf50 r134.2.1 r134.2.2 x2 x3 ((x4 ||| (ishl (1 : Int32) x6))) x5 x6) else
 (F_X5_bitsTold_k150 E c1 kf50 r134.2.1 r134.2.2 x2 x3 x4 x5 x6)))
def F_X5_bitsTold_k120 (E : Ev) (c1 : Nat) (kf50 : Mi → Ml → Int32 → Int32 → Int32 → Int32 → Int32 → Option (Int32 × Mi × Ml)) (M : Mi) (L : Ml) (x2 : Int32) (x3 : Int32) (x4 : Int32) (x5 : Int32) (x6 : Int32) : Option (Int32 × Mi × Ml) :=
  (if x3 = (6 : Int32) then (F_X5_bitsTold_k134 E c1 kf50 M L x2 x3 x4 x5 x6 x6) else
 (F_X5_bitsTold_k134 E c1 kf50 M L x2 x3 x4 x5 x6 x2))
def F_X5_bitsTold_k50 (E : Ev) (c1 : Nat) : Nat → Mi → Ml → Int32 → Int32 → Int32 → Int32 → Int32 → Option (Int32 × Mi × Ml)
  | 0, _, _, _, _, _, _, _ => none
  | n + 1, M, L, x2, x3, x4, x5, x6 =>
  (if x5 ≤ x6 then (some (x4, M, L)) else
 ((F_X0_become 6 1 M L).bind fun r65 =>
   (if x3 = (1 : Int32) then (if ix x2 5 = true then
    (F_X5_bitsTold_k120 E c1 (F_X5_bitsTold_k50 E c1 n) ((up2 r65.1 7 (Int32.toNatClampNeg x2) x6)) r65.2 x2 x3 x4 x5 x6) else none) else
  (if x3 = (2 : Int32) then (if ix x2 5 = true then
     (F_X5_bitsTold_k120 E c1 (F_X5_bitsTold_k50 E c1 n) ((up2 r65.1 8 (Int32.toNatClampNeg x2) x6)) r65.2 x2 x3 x4 x5 x6) else none) else
   (if x3 = (5 : Int32) then (F_X5_bitsTold_k120 E c1 (F_X5_bitsTold_k50 E c1 n) ((up2 r65.1 6 4 x6)) r65.2 x2 x3 x4 x5 x6) else
    (F_X5_bitsTold_k120 E c1 (F_X5_bitsTold_k50 E c1 n) r65.1 r65.2 x2 x3 x4 x5 x6))))))
def F_X5_bitsTold_k45 (E : Ev) (c1 : Nat) (M : Mi) (L : Ml) (x2 : Int32) (x3 : Int32) (x4 : Int32) (s0 : Int32) : Option (Int32 × Mi × Ml) :=
  (F_X5_bitsTold_k50 E c1 FU M L x2 x3 x4 s0 ((0 : Int32)))
def F_X5_bitsTold (E : Ev) (c1 : Nat) (M : Mi) (L : Ml) (x2 : Int32) (x3 : Int32) : Option (Int32 × Mi × Ml) :=
  (if x3 = (1 : Int32) then (F_X5_bitsTold_k45 E c1 M L x2 x3 ((0 : Int32)) ((6 : Int32))) else
 (if x3 = (2 : Int32) then (F_X5_bitsTold_k45 E c1 M L x2 x3 ((0 : Int32)) ((10 : Int32))) else
  (if x3 = (5 : Int32) then (F_X5_bitsTold_k45 E c1 M L x2 x3 ((0 : Int32)) ((M 21 2))) else
   (F_X5_bitsTold_k45 E c1 M L x2 x3 ((0 : Int32)) ((M 1 3))))))
def F_X5_sheetAt (M : Mi) (L : Ml) (x1 : Int32) : Option (Option Nat) :=
  ((F_X5_isWithin x1 (3 : Int32)).bind fun v2 =>
  (if v2 = 0 then (some none) else
 (if ix x1 4 = true then
   (some (some (28 + 2 * Int32.toNatClampNeg x1))) else none)))
def F_X5_wearyTold_k66 (E : Ev) (c1 : Nat) (kf9 : Mi → Ml → Int32 → Int32 → Int32 → Int32 → Int32 → Option (Int32 × Mi × Ml)) (M : Mi) (L : Ml) (x2 : Int32) (x3 : Int32) (x4 : Int32) (x5 : Int32) (x6 : Int32) : Option (Int32 × Mi × Ml) :=
  (kf9 M L x2 x3 x4 x5 ((x6 + (1 : Int32))))
def F_X5_wearyTold_k64 (E : Ev) (c1 : Nat) (kf9 : Mi → Ml → Int32 → Int32 → Int32 → Int32 → Int32 → Option (Int32 × Mi × Ml)) (M : Mi) (L : Ml) (x2 : Int32) (x3 : Int32) (x4 : Int32) (x6 : Int32) (s0 : Int32) : Option (Int32 × Mi × Ml) :=
  (F_X5_wearyTold_k66 E c1 kf9 M L x2 x3 x4 s0 x6)
def F_X5_wearyTold_k9 (E : Ev) (c1 : Nat) : Nat → Mi → Ml → Int32 → Int32 → Int32 → Int32 → Int32 → Option (Int32 × Mi × Ml)
  | 0, _, _, _, _, _, _, _ => none
  | n + 1, M, L, x2, x3, x4, x5, x6 =>
  (if (99 : Int32) < x6 then (if x3 = (3 : Int32) then (some (x4, M, L)) else
  (some (x5, M, L))) else
 ((F_X0_become 6 1 M L).bind fun r24 =>
   (if ix x2 5 = true then
   ((F_X5_firstOtherwise E c1 (up2 r24.1 10 (Int32.toNatClampNeg x2) x6) r24.2 x2).bind fun r41 =>
   (if r41.1 = (-1 : Int32) then (if x5 = (-1 : Int32) then (F_X5_wearyTold_k64 E c1 (F_X5_wearyTold_k9 E c1 n) r41.2.1 r41.2.2 x2 x3 ((x4 + (1 : Int32))) x6 x6) else
   (F_X5_wearyTold_k64 E c1 (F_X5_wearyTold_k9 E c1 n) r41.2.1 r41.2.2 x2 x3 ((x4 + (1 : Int32))) x6 x5)) else
  (F_X5_wearyTold_k66 E c1 (F_X5_wearyTold_k9 E c1 n) r41.2.1 r41.2.2 x2 x3 x4 x5 x6))) else none)))
def F_X5_wearyTold (E : Ev) (c1 : Nat) (M : Mi) (L : Ml) (x2 : Int32) (x3 : Int32) : Option (Int32 × Mi × Ml) :=
  (F_X5_wearyTold_k9 E c1 FU M L x2 x3 ((0 : Int32)) ((-1 : Int32)) ((0 : Int32)))
def F_X5_tells_k90 (E : Ev) (M : Mi) (L : Ml) (x2 : Int32) (x3 : Int32) (y4 : Nat) : Option (Int32 × Mi × Ml) :=
  ((F_X5_wearyTold E y4 M L x2 x3).bind fun r95 =>
  (some (r95.1, r95.2.1, r95.2.2)))
def F_X5_tells (E : Ev) (M : Mi) (L : Ml) (x1 : Int32) (x2 : Int32) (x3 : Int32) : Option (Int32 × Mi × Ml) :=
  ((F_X5_sheetAt M L x1).bind fun v2 => (match v2 with
 | none => (some ((-2 : Int32), M, L))
 | some t2 => if shc t2 = true then ((F_X5_isParty M L x2).bind fun v14 =>
  (if v14 = 0 then (some ((-2 : Int32), M, L)) else
 ((F_X5_isWithin x3 (6 : Int32)).bind fun v23 =>
   (if v23 = 0 then (some ((-2 : Int32), M, L)) else
  (if (M t2 1) = (-1 : Int32) then (some ((-11 : Int32), M, L)) else
   (if (M t2 2) ≤ (20 : Int32) then (if x3 = 0 then ((F_X0_become 6 1 M L).bind fun r69 =>
       ((F_X5_firstOtherwise E t2 r69.1 r69.2 x2).bind fun r76 =>
       (some (r76.1, r76.2.1, r76.2.2)))) else
     (if x3 = (3 : Int32) then (F_X5_tells_k90 E M L x2 x3 t2) else
      (if x3 = (4 : Int32) then (F_X5_tells_k90 E M L x2 x3 t2) else
       ((F_X5_bitsTold E t2 M L x2 x3).bind fun r106 =>
         (some (r106.1, r106.2.1, r106.2.2)))))) else
    (some ((-2 : Int32), M, L)))))))) else none))
def F_X5_stood_k105 (E : Ev) (kf45 : Mi → Ml → Int32 → Nat → Int64 → Int32 → Option (Int64 × Mi × Ml)) (M : Mi) (L : Ml) (x2 : Int32) (y3 : Nat) (x4 : Int64) (x6 : Int32) : Option (Int64 × Mi × Ml) :=
  (kf45 M L x2 y3 x4 ((x6 + (1 : Int32))))
def F_X5_stood_k45 (E : Ev) : Nat → Mi → Ml → Int32 → Nat → Int64 → Int32 → Option (Int64 × Mi × Ml)
  | 0, _, _, _, _, _, _ => none
  | n + 1, M, L, x2, y3, x4, x6 =>
  (if (64 : Int32) ≤ x6 then (some (x4, M, L)) else
 ((F_X0_become 6 1 M L).bind fun r60 =>
   (if ix x2 5 = true then
   ((F_X0_isHollow 1 (up2 r60.1 9 (Int32.toNatClampNeg x2) x6) r60.2 x6).bind fun v80 =>
   (if v80 = 0 then ((F_X5_firstOtherwise E y3 (up2 r60.1 9 (Int32.toNatClampNeg x2) x6) r60.2 x2).bind fun r89 =>
    (if r89.1 = (-1 : Int32) then (F_X5_stood_k105 E (F_X5_stood_k45 E n) r89.2.1 r89.2.2 x2 y3 ((x4 ||| (lshl (1 : Int64) x6))) x6) else
   (F_X5_stood_k105 E (F_X5_stood_k45 E n) r89.2.1 r89.2.2 x2 y3 x4 x6))) else
  (F_X5_stood_k105 E (F_X5_stood_k45 E n) ((up2 r60.1 9 (Int32.toNatClampNeg x2) x6)) r60.2 x2 y3 x4 x6))) else none)))
def F_X5_stood (E : Ev) (M : Mi) (L : Ml) (x1 : Int32) (x2 : Int32) : Option (Int64 × Mi × Ml) :=
  ((F_X5_sheetAt M L x1).bind fun v2 => (match v2 with
 | none => (some ((-4611686018427387904 : Int64), M, L))
 | some t2 => if shc t2 = true then ((F_X5_isParty M L x2).bind fun v12 =>
  (if v12 = 0 then (some ((-4611686018427387904 : Int64), M, L)) else
 (if (M t2 1) = (-1 : Int32) then (some ((-4611686018427387904 : Int64), M, L)) else
  (if (M t2 2) ≤ (20 : Int32) then (F_X5_stood_k45 E FU M L x2 t2 ((0 : Int64)) ((0 : Int32))) else
   (some ((-4611686018427387904 : Int64), M, L)))))) else none))
def F_J7_fill_53178_k5 (a0 n0 : Nat) : Nat → Mi → Ml → Int32 → Int32 → Int32 → Option (Mi × Ml)
  | 0, _, _, _, _, _ => none
  | n + 1, M, L, x1, x2, x3 =>
  (if x3 ≤ x2 then (some (M, L)) else
 (if ix x2 n0 = true then
   (F_J7_fill_53178_k5 a0 n0 n ((up2 M a0 (Int32.toNatClampNeg x2) x1)) L x1 ((x2 + (1 : Int32))) x3) else none))
def F_J7_fill_53178 (a0 n0 : Nat) (M : Mi) (L : Ml) (x1 : Int32) : Option (Mi × Ml) :=
  (F_J7_fill_53178_k5 a0 n0 FU M L x1 ((0 : Int32)) ((nI n0)))
def F_X3_become (b : Nat) (M : Mi) (L : Ml) (x1 : Int32) (x2 : Int32) : Option (Mi × Ml) :=
  ((F_J7_fill_53178 (b + 1) 40 (up2 (up2 M b 1 x1) b 2 x2) L (0 : Int32)).bind fun r15 =>
  (some (r15.1, r15.2)))
def F_X3_has (b : Nat) (M : Mi) (L : Ml) (x1 : Int32) (x2 : Int32) : Option (Int32) :=
  (if x1 < 0 then (rz (0 : Int32)) else
 (if x2 < 0 then (rz (0 : Int32)) else
  (if ((M b 2) - x1) < x2 then (rz (0 : Int32)) else
   (rz (1 : Int32)))))
def F_X3_put (b : Nat) (M : Mi) (L : Ml) (x1 : Int32) (x2 : Int32) : Option (Int32 × Mi × Ml) :=
  ((F_X3_has b M L x1 (1 : Int32)).bind fun v3 =>
  (if v3 = 0 then (rzw (0 : Int32) M L) else
 (if (M b 1) = 0 then (if ix x1 40 = true then
    (rzw (1 : Int32) (up2 M (b + 1) (Int32.toNatClampNeg x1) (Int8.toInt32 (Int32.toInt8 x2))) L) else none) else
  (if (M b 1) = (1 : Int32) then (if ix x1 40 = true then
     (rzw (1 : Int32) (up2 M (b + 1) (Int32.toNatClampNeg x1) (Int16.toInt32 (Int32.toInt16 x2))) L) else none) else
   (if ix x1 40 = true then
     (rzw (1 : Int32) (up2 M (b + 1) (Int32.toNatClampNeg x1) x2) L) else none)))))
def F_X5_film_k53 (E : Ev) : Nat → Mi → Ml → Int32 → Int32 → Nat → Int32 → Option (Int32 × Mi × Ml)
  | 0, _, _, _, _, _, _ => none
  | n + 1, M, L, x2, x3, y4, x5 =>
  (if x3 ≤ x5 then (some (x3, M, L)) else
 ((F_X1_passOne E 6 M L x2 (0 : Int32)).bind fun r69 =>
   (if ix x2 5 = true then
   ((F_X3_put y4 (up2 r69.2.1 6 2 ((r69.2.1 6 2) + (1 : Int32))) r69.2.2 x5 ((up2 r69.2.1 6 2 ((r69.2.1 6 2) + (1 : Int32))) 9 (Int32.toNatClampNeg x2))).bind fun r99 =>
   (F_X5_film_k53 E n r99.2.1 r99.2.2 x2 x3 y4 ((x5 + (1 : Int32))))) else none)))
def F_X5_film (E : Ev) (M : Mi) (L : Ml) (x1 : Int32) (x2 : Int32) (x3 : Int32) : Option (Int32 × Mi × Ml) :=
  ((F_X5_sheetAt M L x1).bind fun v2 => (match v2 with
 | none => (some ((-2 : Int32), M, L))
 | some t2 => if shc t2 = true then ((F_X5_isParty M L x2).bind fun v14 =>
  (if v14 = 0 then (some ((-2 : Int32), M, L)) else
 ((F_X5_isWithin x3 (20 : Int32)).bind fun v23 =>
   (if v23 = 0 then (some ((-2 : Int32), M, L)) else
  ((F_X3_become t2 M L (0 : Int32) x3).bind fun r36 =>
    ((F_X0_become 6 1 r36.1 r36.2).bind fun r47 =>
    (F_X5_film_k53 E FU r47.1 r47.2 x2 x3 t2 ((0 : Int32))))))))) else none))
def F_X0_whereDrawn_k61 (b : Nat) (M : Mi) (L : Ml) (kf14 : Int32 → Int32 → Int32 → Int32 → Int32 → Option (Int32)) (x2 : Int32) (x3 : Int32) (x4 : Int32) (x6 : Int32) (s0 : Int32) : Option (Int32) :=
  (kf14 x2 x3 x4 s0 ((x6 + (1 : Int32))))
def F_X0_whereDrawn_k14 (b : Nat) (M : Mi) (L : Ml) : Nat → Int32 → Int32 → Int32 → Int32 → Int32 → Option (Int32)
  | 0, _, _, _, _, _ => none
  | n + 1, x2, x3, x4, x5, x6 =>
  (if x3 ≤ x6 then (some x5) else
 ((some ((x4 * (1103515245 : Int32)) + (12345 : Int32))).bind fun z29 =>
   ((F_X0_landing b M L x2 x5 (irm (iushr z29 (9 : Int32)) (8 : Int32))).bind fun v43 =>
   (if v43 = (-1 : Int32) then (F_X0_whereDrawn_k61 b M L (F_X0_whereDrawn_k14 b M L n) x2 x3 z29 x6 x5) else
  (F_X0_whereDrawn_k61 b M L (F_X0_whereDrawn_k14 b M L n) x2 x3 z29 x6 v43)))))
def F_X0_whereDrawn (b : Nat) (M : Mi) (L : Ml) (x1 : Int32) (x2 : Int32) (x3 : Int32) : Option (Int32) :=
  (if ix x2 5 = true then
  (F_X0_whereDrawn_k14 b M L FU x2 x3 x1 ((M (b + 3) (Int32.toNatClampNeg x2))) ((0 : Int32))) else none)
def F_X5_drawn (M : Mi) (L : Ml) (x1 : Int32) (x2 : Int32) (x3 : Int32) : Option (Int32) :=
  ((F_X5_isParty M L x2).bind fun v2 =>
  (if v2 = 0 then (some (-2 : Int32)) else
 ((F_X5_isWithin x3 (40 : Int32)).bind fun v11 =>
   (if v11 = 0 then (some (-2 : Int32)) else
  ((F_X0_whereDrawn 1 M L x1 x2 x3).bind fun v27 =>
    (some v27))))))
def F_X5_chance_k72 (M : Mi) (L : Ml) (kf38 : Int32 → Int32 → Int32 → Int32 → Int32 → Int32 → Option (Int64)) (x1 : Int32) (x2 : Int32) (x3 : Int32) (x4 : Int32) (x5 : Int32) (x6 : Int32) : Option (Int64) :=
  (kf38 x1 x2 x3 x4 x5 ((x6 + (1 : Int32))))
def F_X5_chance_k38 (M : Mi) (L : Ml) : Nat → Int32 → Int32 → Int32 → Int32 → Int32 → Int32 → Option (Int64)
  | 0, _, _, _, _, _, _ => none
  | n + 1, x1, x2, x3, x4, x5, x6 =>
  (if x2 ≤ x6 then ((F_X5_inLowestTerms x5 x2 x4).bind fun v83 =>
   (some v83)) else
 ((F_X0_whereDrawn 1 M L (x1 + x6) x3 (8 : Int32)).bind fun v59 =>
   ((F_X0_isFoundBy 1 M L v59).bind fun v62 =>
   (if v62 = (1 : Int32) then (F_X5_chance_k72 M L (F_X5_chance_k38 M L n) x1 x2 x3 x4 ((x5 + (1 : Int32))) x6) else
  (F_X5_chance_k72 M L (F_X5_chance_k38 M L n) x1 x2 x3 x4 x5 x6)))))
def F_X5_chance (M : Mi) (L : Ml) (x1 : Int32) (x2 : Int32) (x3 : Int32) (x4 : Int32) : Option (Int64) :=
  (if x2 < (1 : Int32) then (some (-4611686018427387904 : Int64)) else
 (if (40 : Int32) < x2 then (some (-4611686018427387904 : Int64)) else
  ((F_X5_isParty M L x3).bind fun v13 =>
    (if v13 = 0 then (some (-4611686018427387904 : Int64)) else
   ((F_X5_isWithin x4 (1 : Int32)).bind fun v22 =>
     (if v22 = 0 then (some (-4611686018427387904 : Int64)) else
    (F_X5_chance_k38 M L FU x1 x2 x3 x4 ((0 : Int32)) ((0 : Int32)))))))))
def F_X5_image (M : Mi) (L : Ml) : Option (Int32 × Mi × Ml) :=
  ((F_X0_become 16 1 M L).bind fun r8 =>
  (some (((up2 r8.1 0 7 (1 : Int32)) 16 3), (up2 r8.1 0 7 (1 : Int32)), r8.2)))
def F_X5_back (M : Mi) (L : Ml) : Option (Int32 × Mi × Ml) :=
  (if (M 0 7) = 0 then (some ((-3 : Int32), M, L)) else
 ((F_X0_become 1 16 M L).bind fun r18 =>
   (some ((r18.1 1 3), r18.1, r18.2))))
def F_X5_count (M : Mi) (L : Ml) (x1 : Int32) : Option (Int32) :=
  (if x1 = (0 : Int32) then (some (M 1 3)) else
 (if x1 = (1 : Int32) then ((F_J13_bitCount_95d88 (L 1 1)).bind fun v55 =>
   (some v55)) else
 (if x1 = (2 : Int32) then (some (M 1 2)) else
 (if x1 = (3 : Int32) then (some (M 21 2)) else
 (if x1 = (4 : Int32) then (some (M 24 2)) else
 (if x1 = (5 : Int32) then (some (M 1 4)) else
 (some (-2 : Int32))))))))
def F_X5_sheet (M : Mi) (L : Ml) (x1 : Int32) (x2 : Int32) (x3 : Int32) : Option (Int32 × Mi × Ml) :=
  ((F_X5_sheetAt M L x1).bind fun v2 => (match v2 with
 | none => (some ((-2 : Int32), M, L))
 | some t2 => if shc t2 = true then (if x2 < (-1 : Int32) then (some ((-2 : Int32), M, L)) else
 (if x2 ≤ (2 : Int32) then (if x2 = (-1 : Int32) then ((F_X3_become t2 M L (-1 : Int32) (0 : Int32)).bind fun r34 =>
     (some ((1 : Int32), r34.1, r34.2))) else
   (if x3 ≤ (40 : Int32) then (if 0 ≤ x3 then ((F_X3_become t2 M L x2 x3).bind fun r59 =>
       (some ((1 : Int32), r59.1, r59.2))) else
     (some ((-14 : Int32), M, L))) else
    (some ((-2 : Int32), M, L)))) else
  (some ((-2 : Int32), M, L)))) else none))
def F_X5_cell (M : Mi) (L : Ml) (x1 : Int32) (x2 : Int32) (x3 : Int32) : Option (Int32 × Mi × Ml) :=
  ((F_X5_sheetAt M L x1).bind fun v2 => (match v2 with
 | none => (some ((-2 : Int32), M, L))
 | some t2 => if shc t2 = true then (if (M t2 1) = (-1 : Int32) then (some ((-11 : Int32), M, L)) else
 ((F_X3_put t2 M L x2 x3).bind fun r31 =>
   (if r31.1 = 0 then (some ((-12 : Int32), r31.2.1, r31.2.2)) else
  (some ((1 : Int32), r31.2.1, r31.2.2))))) else none))
def F_X5_copy (M : Mi) (L : Ml) (x1 : Int32) (x2 : Int32) (x3 : Int32) (x4 : Int32) (x5 : Int32) : Option (Int32 × Mi × Ml) :=
  ((F_X5_sheetAt M L x1).bind fun v2 => (match v2 with
 | none => ((F_X5_sheetAt M L x3).bind fun v9 => (match v9 with
 | none => (some ((-2 : Int32), M, L))
 | some t9 => if shc t9 = true then (some ((-2 : Int32), M, L)) else none))
 | some t2 => if shc t2 = true then ((F_X5_sheetAt M L x3).bind fun v9 => (match v9 with
 | none => (some ((-2 : Int32), M, L))
 | some t9 => if shc t9 = true then (if (M t2 1) = (-1 : Int32) then (some ((-11 : Int32), M, L)) else
 (if (M t9 1) = (-1 : Int32) then (some ((-11 : Int32), M, L)) else
  (if (M t2 1) = (M t9 1) then ((F_X3_has t2 M L x2 x5).bind fun v69 =>
     (if v69 = 0 then (some ((-12 : Int32), M, L)) else
    ((F_X3_has t9 M L x4 x5).bind fun v81 =>
      (if v81 = 0 then (some ((-12 : Int32), M, L)) else
     (if cpok x2 x4 x5 40 40 = true then
       (some (x5, (upr M (t9 + 1) (va_cpy (M (t2 + 1)) (M (t9 + 1)) (Int32.toNatClampNeg x2) (Int32.toNatClampNeg x4) (Int32.toNatClampNeg x5))), L)) else none))))) else
   (some ((-13 : Int32), M, L))))) else none)) else none))
def F_X5_suits_k129 (kf62 : Mi → Ml → Int32 → Int32 → Nat → Int32 → Int32 → Option (Int32 × Mi × Ml)) (M : Mi) (L : Ml) (x3 : Int32) (x4 : Int32) (y5 : Nat) (x6 : Int32) (x7 : Int32) : Option (Int32 × Mi × Ml) :=
  (kf62 M L x3 x4 y5 x6 ((x7 + (1 : Int32))))
def F_X5_suits_k62 : Nat → Mi → Ml → Int32 → Int32 → Nat → Int32 → Int32 → Option (Int32 × Mi × Ml)
  | 0, _, _, _, _, _, _, _ => none
  | n + 1, M, L, x3, x4, y5, x6, x7 =>
  (if x4 ≤ x7 then (some (x6, M, L)) else
 ((F_X3_has y5 M L (x3 + ((3 : Int32) * x7)) (3 : Int32)).bind fun v82 =>
   (if v82 = 0 then (some ((-12 : Int32), M, L)) else
  (if ix (x3 + ((3 : Int32) * x7)) 40 = true then
    (if ix ((x3 + ((3 : Int32) * x7)) + (1 : Int32)) 40 = true then
    (if ix ((x3 + ((3 : Int32) * x7)) + (2 : Int32)) 40 = true then
    ((F_X5_party M L (M (y5 + 1) (Int32.toNatClampNeg (x3 + ((3 : Int32) * x7)))) (M (y5 + 1) (Int32.toNatClampNeg ((x3 + ((3 : Int32) * x7)) + (1 : Int32)))) (M (y5 + 1) (Int32.toNatClampNeg ((x3 + ((3 : Int32) * x7)) + (2 : Int32))))).bind fun r120 =>
    (if r120.1 < 0 then (F_X5_suits_k129 (F_X5_suits_k62 n) r120.2.1 r120.2.2 x3 x4 y5 x6 x7) else
   (F_X5_suits_k129 (F_X5_suits_k62 n) r120.2.1 r120.2.2 x3 x4 y5 ((x6 + (1 : Int32))) x7))) else none) else none) else none))))
def F_X5_suits (M : Mi) (L : Ml) (x1 : Int32) (x2 : Int32) (x3 : Int32) (x4 : Int32) : Option (Int32 × Mi × Ml) :=
  ((F_X5_sheetAt M L x1).bind fun v2 => (match v2 with
 | none => (some ((-2 : Int32), M, L))
 | some t2 => if shc t2 = true then ((F_X5_isWithin x2 (2 : Int32)).bind fun v14 =>
  (if v14 = 0 then (some ((-2 : Int32), M, L)) else
 ((F_X5_isWithin x4 (5 : Int32)).bind fun v23 =>
   (if v23 = 0 then (some ((-2 : Int32), M, L)) else
  (if (M t2 1) = (-1 : Int32) then (some ((-11 : Int32), M, L)) else
   (if (M t2 1) = x2 then (F_X5_suits_k62 FU M L x3 x4 t2 ((0 : Int32)) ((0 : Int32))) else
    (some ((-13 : Int32), M, L)))))))) else none))
def F_X5_taken_k34 (M : Mi) (L : Ml) : Nat → Int32 → Int32 → Int32 → Int32 → Option (Int32)
  | 0, _, _, _, _ => none
  | n + 1, x1, x2, x3, x4 =>
  (if (6 : Int32) ≤ x4 then (some (-13 : Int32)) else
 ((F_X5_isKind x3).bind fun v42 =>
   (if v42 = 0 then (some (-13 : Int32)) else
  (if x3 = x2 then (if ix x1 5 = true then
     (some (M 3 (Int32.toNatClampNeg x1))) else none) else
   (if ix x3 (sA 0).length = true then
     (F_X5_taken_k34 M L n x1 x2 (((sA 0).getD (Int32.toNatClampNeg x3) 0)) ((x4 + (1 : Int32)))) else none)))))
def F_X5_taken (M : Mi) (L : Ml) (x1 : Int32) (x2 : Int32) : Option (Int32) :=
  ((F_X5_isKind x2).bind fun v1 =>
  (if v1 = 0 then (some (-2 : Int32)) else
 ((F_X5_isParty M L x1).bind fun v12 =>
   (if v12 = 0 then (some (-11 : Int32)) else
  (if ix x1 5 = true then
    (F_X5_taken_k34 M L FU x1 x2 ((M 2 (Int32.toNatClampNeg x1))) ((0 : Int32))) else none)))))
def F_X6_in (x0 : Int64) (x2 : Int64) (x4 : Int64) : Option (Int32) :=
  (if (lg_cmp x0 x2) < 0 then (rz (0 : Int32)) else
 (if 0 < (lg_cmp x0 x4) then (rz (0 : Int32)) else
  (rz (1 : Int32))))
def F_X6_within (x0 : Int32) (x1 : Int32) (x2 : Int32) : Option (Int32) :=
  (if x1 ≤ x0 then (if x0 ≤ x2 then (some x0) else
  (some x2)) else
 (some x1))
def F_X6_spell (M : Mi) (L : Ml) (x1 : Int32) (x2 : Int32) (x3 : Int32) (x4 : Int32) (x5 : Int32) (x6 : Int32) (x7 : Int32) (x8 : Int32) (x9 : Int32) : Option (Mi × Ml) :=
  (if ix x1 960 = true then
  (if ix (x1 + (1 : Int32)) 960 = true then
  (if ix (x1 + (2 : Int32)) 960 = true then
  (if ix (x1 + (3 : Int32)) 960 = true then
  (if ix (x1 + (4 : Int32)) 960 = true then
  (if ix (x1 + (5 : Int32)) 960 = true then
  (if ix (x1 + (6 : Int32)) 960 = true then
  (if ix (x1 + (7 : Int32)) 960 = true then
  (some ((up2 (up2 (up2 (up2 (up2 (up2 (up2 (up2 M 1 (Int32.toNatClampNeg x1) x2) 1 (Int32.toNatClampNeg (x1 + (1 : Int32))) x3) 1 (Int32.toNatClampNeg (x1 + (2 : Int32))) x4) 1 (Int32.toNatClampNeg (x1 + (3 : Int32))) x5) 1 (Int32.toNatClampNeg (x1 + (4 : Int32))) x6) 1 (Int32.toNatClampNeg (x1 + (5 : Int32))) x7) 1 (Int32.toNatClampNeg (x1 + (6 : Int32))) x8) 1 (Int32.toNatClampNeg (x1 + (7 : Int32))) x9), L)) else none) else none) else none) else none) else none) else none) else none) else none)
def F_X6_isOne (M : Mi) (L : Ml) (x1 : Int32) : Option (Int32) :=
  ((F_X6_in (Int32.toInt64 x1) (0 : Int64) (Int32.toInt64 ((M 0 11) - (1 : Int32)))).bind fun v10 =>
  (rz v10))
def F_X6_areTwo (M : Mi) (L : Ml) (x1 : Int32) (x2 : Int32) : Option (Int32) :=
  ((F_X6_isOne M L x1).bind fun v2 =>
  (if v2 = 0 then (rz (0 : Int32)) else
 ((F_X6_isOne M L x2).bind fun v10 =>
   (if v10 = 0 then (rz (0 : Int32)) else
  (if x1 = x2 then (rz (0 : Int32)) else
   (rz (1 : Int32)))))))
def F_X6_isTile (x0 : Int32) : Option (Int32) :=
  ((F_X6_in (Int32.toInt64 x0) (0 : Int64) (63 : Int64)).bind fun v6 =>
  (rz v6))
def F_X6_has (x0 : Int64) (x2 : Int32) : Option (Int32) :=
  (if (lg_cmp ((lshr x0 x2) &&& (1 : Int64)) (1 : Int64)) = 0 then (rz (1 : Int32)) else
 (rz (0 : Int32)))
def F_X6_bitsOf_k4 : Nat → Int32 → Int64 → Option (Int32)
  | 0, _, _ => none
  | n + 1, x2, x3 =>
  (if (lg_cmp x3 (0 : Int64)) = 0 then (some x2) else
 (F_X6_bitsOf_k4 n ((x2 + (1 : Int32))) ((x3 &&& (x3 - (1 : Int64))))))
def F_X6_bitsOf (x0 : Int64) : Option (Int32) :=
  (F_X6_bitsOf_k4 FU ((0 : Int32)) x0)
def F_X6_isOf_k33 (M : Mi) (L : Ml) : Option (Int32) :=
  (rz (1 : Int32))
def F_X6_isOf_k15 (M : Mi) (L : Ml) (x2 : Int32) : Option (Int32) :=
  ((F_X6_isTile x2).bind fun v16 =>
  (if v16 = 0 then (rz (0 : Int32)) else
 (F_X6_isOf_k33 M L)))
def F_X6_isOf (M : Mi) (L : Ml) (x1 : Int32) (x2 : Int32) : Option (Int32) :=
  (if x1 = 0 then (F_X6_isOf_k33 M L) else
 (if x1 < (3 : Int32) then (F_X6_isOf_k15 M L x2) else
  (if x1 = (11 : Int32) then (F_X6_isOf_k15 M L x2) else
   ((F_X6_isOne M L x2).bind fun v27 =>
     (if v27 = 0 then (rz (0 : Int32)) else
    (F_X6_isOf_k33 M L))))))
def F_X6_mostOf (x0 : Int32) : Option (Int32) :=
  (if x0 = 0 then (some (999 : Int32)) else
 (if (3 : Int32) ≤ x0 then (if x0 = (3 : Int32) then (some (9 : Int32)) else
   (if x0 = (4 : Int32) then (some (63 : Int32)) else
    (some (99 : Int32)))) else
  (some (1 : Int32))))
def F_X6_lays (M : Mi) (L : Ml) (x1 : Int32) (x2 : Int32) (x3 : Int32) : Option (Mi × Ml) :=
  (if x1 = 0 then (some ((up2 M 0 7 x3), L)) else
 (if x1 = (1 : Int32) then (some (M, (up2 L 0 8 (((L 0 8) &&& ((lshl (1 : Int64) x2) ^^^ (-1 : Int64))) ||| (lshl (Int32.toInt64 x3) x2))))) else
  (if x1 = (2 : Int32) then (some (M, (up2 L 0 9 (((L 0 9) &&& ((lshl (1 : Int64) x2) ^^^ (-1 : Int64))) ||| (lshl (Int32.toInt64 x3) x2))))) else
   (if (7 : Int32) ≤ x1 then (some ((up2 M 0 4 x3), L)) else
    (if ix ((((4 : Int32) * x2) + x1) - (3 : Int32)) 20 = true then
      (some ((up2 M 4 (Int32.toNatClampNeg ((((4 : Int32) * x2) + x1) - (3 : Int32))) x3), L)) else none)))))
def F_X6_isBlack (x0 : Int32) : Option (Int32) :=
  (if (irm ((irm x0 (8 : Int32)) + (x0 / (8 : Int32))) (2 : Int32)) = (1 : Int32) then (rz (1 : Int32)) else
 (rz (0 : Int32)))
def F_X6_onOf (M : Mi) (L : Ml) (x1 : Int32) : Option (Int32) :=
  (if ix (((4 : Int32) * x1) + (1 : Int32)) 20 = true then
  (some (M 4 (Int32.toNatClampNeg (((4 : Int32) * x1) + (1 : Int32))))) else none)
def F_X6_foundOf_k96 (M : Mi) (L : Ml) : Option (Int32) :=
  (some (1 : Int32))
def F_X6_foundOf_k82 (M : Mi) (L : Ml) (x3 : Int32) (s0 : Int32) : Option (Int32) :=
  (if s0 = 0 then ((F_X6_isBlack x3).bind fun v90 =>
   (if v90 = 0 then (some (0 : Int32)) else
  (F_X6_foundOf_k96 M L))) else
 (F_X6_foundOf_k96 M L))
def F_X6_foundOf_k81 (M : Mi) (L : Ml) (x3 : Int32) : Option (Int32) :=
  (F_X6_foundOf_k82 M L x3 ((0 : Int32)))
def F_X6_foundOf_k71 (M : Mi) (L : Ml) (x3 : Int32) (x4 : Int32) : Option (Int32) :=
  (if (5 : Int32) ≤ x4 then (F_X6_foundOf_k81 M L x3) else
 (F_X6_foundOf_k82 M L x3 ((1 : Int32))))
def F_X6_foundOf_k54 (M : Mi) (L : Ml) (x2 : Int32) (x3 : Int32) (x4 : Int32) : Option (Int32) :=
  (if x2 = (4 : Int32) then (some (0 : Int32)) else
 (if x2 = (1 : Int32) then (F_X6_foundOf_k71 M L x3 x4) else
  (if x2 = (3 : Int32) then (F_X6_foundOf_k71 M L x3 x4) else
   (F_X6_foundOf_k81 M L x3))))
def F_X6_foundOf (M : Mi) (L : Ml) (x1 : Int32) : Option (Int32) :=
  (if ix (((4 : Int32) * x1) + (3 : Int32)) 20 = true then
  ((some (M 4 (Int32.toNatClampNeg (((4 : Int32) * x1) + (3 : Int32))))).bind fun z10 =>
  ((F_X6_onOf M L x1).bind fun v13 =>
  (if ix (((4 : Int32) * x1) + (2 : Int32)) 20 = true then
  ((some (M 4 (Int32.toNatClampNeg (((4 : Int32) * x1) + (2 : Int32))))).bind fun z27 =>
  ((F_X6_has (L 0 8) v13).bind fun v34 =>
  (if v34 = 0 then (if z10 = (5 : Int32) then (if z27 ≤ (49 : Int32) then (F_X6_foundOf_k54 M L z10 v13 z27) else
   (some (2 : Int32))) else
  (F_X6_foundOf_k54 M L z10 v13 z27)) else
 (some (2 : Int32))))) else none))) else none)
def F_X6_fail (M : Mi) (L : Ml) : Option (Mi × Ml) :=
  (if (M 0 26) = 0 then (some ((up2 (up2 M 0 26 (1 : Int32)) 0 27 ((up2 M 0 26 (1 : Int32)) 0 23)), L)) else
 (some (M, L)))
def F_X6_byteAt (M : Mi) (L : Ml) (x1 : Int32) : Option (Int32) :=
  (if (M 0 20) ≤ x1 then (some (-1 : Int32)) else
 (if ix ((M 0 19) + x1) 960 = true then
   (some (M 1 (Int32.toNatClampNeg ((M 0 19) + x1)))) else none))
def F_X6_isLetter (M : Mi) (L : Ml) (x1 : Int32) (x2 : Int32) : Option (Int32) :=
  (if (M 0 21) ≤ ((M 0 23) + x1) then (if x2 = 0 then (rz (1 : Int32)) else
  (rz (0 : Int32))) else
 ((F_X6_byteAt M L ((M 0 23) + x1)).bind fun v20 =>
   (if v20 = x2 then (rz (1 : Int32)) else
  (rz (0 : Int32)))))
def F_X6_isWord (M : Mi) (L : Ml) (x1 : Int32) (x2 : Int32) (x3 : Int32) (x4 : Int32) (x5 : Int32) (x6 : Int32) (x7 : Int32) (x8 : Int32) : Option (Int32) :=
  (if (M 0 26) = 0 then (if (M 0 22) = (1 : Int32) then (if ((M 0 23) + (8 : Int32)) < (M 0 21) then (rz (0 : Int32)) else
   ((F_X6_isLetter M L (0 : Int32) x1).bind fun v32 =>
     (if v32 = 0 then (rz (0 : Int32)) else
    ((F_X6_isLetter M L (1 : Int32) x2).bind fun v41 =>
      (if v41 = 0 then (rz (0 : Int32)) else
     ((F_X6_isLetter M L (2 : Int32) x3).bind fun v50 =>
       (if v50 = 0 then (rz (0 : Int32)) else
      ((F_X6_isLetter M L (3 : Int32) x4).bind fun v60 =>
        (if v60 = 0 then (rz (0 : Int32)) else
       ((F_X6_isLetter M L (4 : Int32) x5).bind fun v70 =>
         (if v70 = 0 then (rz (0 : Int32)) else
        ((F_X6_isLetter M L (5 : Int32) x6).bind fun v80 =>
          (if v80 = 0 then (rz (0 : Int32)) else
         ((F_X6_isLetter M L (6 : Int32) x7).bind fun v91 =>
           (if v91 = 0 then (rz (0 : Int32)) else
          ((F_X6_isLetter M L (7 : Int32) x8).bind fun v102 =>
            (if v102 = 0 then (rz (0 : Int32)) else
           (rz (1 : Int32))))))))))))))))))) else
  (rz (0 : Int32))) else
 (rz (0 : Int32)))
def F_X6_next_k26 (kf0 : Mi → Ml → Option (Mi × Ml)) (M : Mi) (L : Ml) : Option (Mi × Ml) :=
  (kf0 ((up2 M 0 21 ((M 0 21) + (1 : Int32)))) L)
def F_X6_next_k300 (M : Mi) (L : Ml) (x1 : Int32) : Option (Mi × Ml) :=
  (some ((up2 (up2 M 0 22 (3 : Int32)) 0 21 (((up2 M 0 22 (3 : Int32)) 0 21) + (1 : Int32))), (up2 L 0 24 (Int32.toInt64 x1))))
def F_X6_next_k246 (M : Mi) (L : Ml) (s1 : Int32) : Option (Mi × Ml) :=
  (some ((up2 M 0 22 s1), L))
def F_X6_next_k216 (kf160 : Mi → Ml → Int32 → Option (Mi × Ml)) (M : Mi) (L : Ml) (x2 : Int32) (s1 : Int64) : Option (Mi × Ml) :=
  (kf160 ((up2 M 0 21 ((M 0 21) + (1 : Int32)))) ((up2 L 0 24 s1)) ((x2 + (1 : Int32))))
def F_X6_next_k160 : Nat → Mi → Ml → Int32 → Option (Mi × Ml)
  | 0, _, _, _ => none
  | n + 1, M, L, x2 =>
  ((F_X6_byteAt M L (M 0 21)).bind fun v165 =>
  ((F_X6_in (Int32.toInt64 v165) (48 : Int64) (57 : Int64)).bind fun v175 =>
  (if v175 = 0 then (if x2 ≤ (4 : Int32) then (F_X6_next_k246 M L ((2 : Int32))) else
  (F_X6_next_k246 M L ((4 : Int32)))) else
 (if (4 : Int32) ≤ x2 then (F_X6_next_k216 (F_X6_next_k160 n) M L x2 ((L 0 24))) else
  ((F_X6_byteAt M L (M 0 21)).bind fun v200 =>
    (F_X6_next_k216 (F_X6_next_k160 n) M L x2 (((((10 : Int64) * (L 0 24)) + (Int32.toInt64 v200)) - (48 : Int64)))))))))
def F_X6_next_k100 : Nat → Mi → Ml → Option (Mi × Ml)
  | 0, _, _ => none
  | n + 1, M, L =>
  ((F_X6_byteAt M L (M 0 21)).bind fun v105 =>
  ((F_X6_in (Int32.toInt64 v105) (97 : Int64) (122 : Int64)).bind fun v115 =>
  (if v115 = 0 then (some (M, L)) else
 (F_X6_next_k100 n ((up2 M 0 21 ((M 0 21) + (1 : Int32)))) L))))
def F_X6_next_k0 : Nat → Mi → Ml → Option (Mi × Ml)
  | 0, _, _ => none
  | n + 1, M, L =>
  ((F_X6_byteAt M L (M 0 21)).bind fun v5 =>
  (if v5 = (32 : Int32) then (F_X6_next_k26 (F_X6_next_k0 n) M L) else
 ((F_X6_byteAt M L (M 0 21)).bind fun v18 =>
   (if v18 = (10 : Int32) then (F_X6_next_k26 (F_X6_next_k0 n) M L) else
  ((F_X6_byteAt (up2 M 0 23 (M 0 21)) L ((up2 M 0 23 (M 0 21)) 0 21)).bind fun v52 =>
    (if 0 ≤ v52 then ((F_X6_in (Int32.toInt64 v52) (97 : Int64) (122 : Int64)).bind fun v89 =>
     (if v89 = 0 then ((F_X6_in (Int32.toInt64 v52) (48 : Int64) (57 : Int64)).bind fun v142 =>
      (if v142 = 0 then (if v52 = (40 : Int32) then (F_X6_next_k300 ((up2 (up2 M 0 23 (M 0 21)) 0 22 (4 : Int32))) L v52) else
      (if v52 = (41 : Int32) then (F_X6_next_k300 ((up2 (up2 M 0 23 (M 0 21)) 0 22 (4 : Int32))) L v52) else
       (if v52 = (59 : Int32) then (F_X6_next_k300 ((up2 (up2 M 0 23 (M 0 21)) 0 22 (4 : Int32))) L v52) else
        (if v52 = (43 : Int32) then (F_X6_next_k300 ((up2 (up2 M 0 23 (M 0 21)) 0 22 (4 : Int32))) L v52) else
         (if v52 = (45 : Int32) then (F_X6_next_k300 ((up2 (up2 M 0 23 (M 0 21)) 0 22 (4 : Int32))) L v52) else
          (if v52 = (42 : Int32) then (F_X6_next_k300 ((up2 (up2 M 0 23 (M 0 21)) 0 22 (4 : Int32))) L v52) else
           (if v52 = (60 : Int32) then (F_X6_next_k300 ((up2 (up2 M 0 23 (M 0 21)) 0 22 (4 : Int32))) L v52) else
            (if v52 = (61 : Int32) then (F_X6_next_k300 ((up2 (up2 M 0 23 (M 0 21)) 0 22 (4 : Int32))) L v52) else
             (some ((up2 (up2 M 0 23 (M 0 21)) 0 22 (4 : Int32)), L)))))))))) else
     (F_X6_next_k160 FU ((up2 (up2 (up2 M 0 23 (M 0 21)) 0 22 (4 : Int32)) 0 22 (2 : Int32))) ((up2 L 0 24 (0 : Int64))) ((0 : Int32))))) else
    (F_X6_next_k100 FU ((up2 (up2 (up2 M 0 23 (M 0 21)) 0 22 (4 : Int32)) 0 22 (1 : Int32))) L))) else
   (some ((up2 (up2 (up2 (up2 M 0 23 (M 0 21)) 0 22 (4 : Int32)) 0 22 (0 : Int32)) 0 23 ((up2 (up2 (up2 M 0 23 (M 0 21)) 0 22 (4 : Int32)) 0 22 (0 : Int32)) 0 20)), L))))))))
def F_X6_next (M : Mi) (L : Ml) : Option (Mi × Ml) :=
  (F_X6_next_k0 FU M L)
def F_X6_isSign (M : Mi) (L : Ml) (x1 : Int32) : Option (Int32) :=
  (if (M 0 26) = 0 then (if (M 0 22) = (3 : Int32) then (if (lg_cmp (L 0 24) (Int32.toInt64 x1)) = 0 then (rz (1 : Int32)) else
   (rz (0 : Int32))) else
  (rz (0 : Int32))) else
 (rz (0 : Int32)))
def F_X6_name (M : Mi) (L : Ml) : Option (Int32 × Mi × Ml) :=
  ((F_X6_isWord M L (119 : Int32) (101 : Int32) (97 : Int32) (114 : Int32) (121 : Int32) (0 : Int32) (0 : Int32) (0 : Int32)).bind fun v14 =>
  (if v14 = 0 then ((F_X6_isWord M L (99 : Int32) (111 : Int32) (108 : Int32) (117 : Int32) (109 : Int32) (110 : Int32) (0 : Int32) (0 : Int32)).bind fun v40 =>
   (if v40 = 0 then ((F_X6_isWord M L (114 : Int32) (111 : Int32) (119 : Int32) (0 : Int32) (0 : Int32) (0 : Int32) (0 : Int32) (0 : Int32)).bind fun v63 =>
    (if v63 = 0 then ((F_X6_isWord M L (110 : Int32) (117 : Int32) (109 : Int32) (98 : Int32) (101 : Int32) (114 : Int32) (0 : Int32) (0 : Int32)).bind fun v89 =>
     (if v89 = 0 then ((F_X6_isWord M L (109 : Int32) (105 : Int32) (110 : Int32) (117 : Int32) (116 : Int32) (101 : Int32) (0 : Int32) (0 : Int32)).bind fun v115 =>
      (if v115 = 0 then ((F_X6_isWord M L (119 : Int32) (111 : Int32) (114 : Int32) (110 : Int32) (0 : Int32) (0 : Int32) (0 : Int32) (0 : Int32)).bind fun v139 =>
       (if v139 = 0 then ((F_X6_fail M L).bind fun r151 =>
        (some ((0 : Int32), r151.1, r151.2))) else
      (some ((M 0 18), M, L)))) else
     (some ((M 0 17), M, L)))) else
    (some ((M 0 16), M, L)))) else
   (some ((M 0 15), M, L)))) else
  (some ((M 0 14), M, L)))) else
 (some ((M 0 13), M, L))))
def F_X6_opens (M : Mi) (L : Ml) : Option (Int32 × Mi × Ml) :=
  (if (M 0 25) = (5 : Int32) then ((F_X6_fail M L).bind fun r9 =>
   (rzw (0 : Int32) r9.1 r9.2)) else
 ((F_X6_next (up2 M 0 25 ((M 0 25) + (1 : Int32))) L).bind fun r25 =>
   (rzw (1 : Int32) r25.1 r25.2)))
def F_X6_atom5_k98 (M : Mi) (L : Ml) (x1 : Int32) : Option (Int32 × Mi × Ml) :=
  ((F_X6_fail M L).bind fun r99 =>
  (some (x1, r99.1, r99.2)))
def F_X6_atom5_k64 (M : Mi) (L : Ml) (x1 : Int32) : Option (Int32 × Mi × Ml) :=
  (if (M 0 26) = 0 then (if (M 0 22) = (1 : Int32) then ((F_X6_name M L).bind fun r80 =>
    (if (r80.2.1 0 26) = 0 then ((F_X6_next r80.2.1 r80.2.2).bind fun r92 =>
     (some (r80.1, r92.1, r92.2))) else
   (some (r80.1, r80.2.1, r80.2.2)))) else
  (F_X6_atom5_k98 M L x1)) else
 (F_X6_atom5_k98 M L x1))
def F_X6_atom5 (M : Mi) (L : Ml) : Option (Int32 × Mi × Ml) :=
  ((F_X6_isSign M L (45 : Int32)).bind fun v5 =>
  (if v5 = 0 then ((F_X6_isSign M L (40 : Int32)).bind fun v22 =>
   (if v22 = 0 then (if (M 0 26) = 0 then (if (M 0 22) = (2 : Int32) then ((F_X6_next M L).bind fun r58 =>
      (some ((Int64.toInt32 (L 0 24)), r58.1, r58.2))) else
    (F_X6_atom5_k64 M L ((0 : Int32)))) else
   (F_X6_atom5_k64 M L ((0 : Int32)))) else
  ((F_X6_opens M L).bind fun r29 =>
    (some ((0 : Int32), r29.2.1, r29.2.2))))) else
 ((F_X6_opens M L).bind fun r12 =>
   (some ((0 : Int32), r12.2.1, r12.2.2)))))
def F_X6_term5_k5 : Nat → Mi → Ml → Int32 → Option (Int32 × Mi × Ml)
  | 0, _, _, _ => none
  | n + 1, M, L, x1 =>
  ((F_X6_isSign M L (42 : Int32)).bind fun v8 =>
  (if v8 = 0 then (some (x1, M, L)) else
 ((F_X6_next M L).bind fun r15 =>
   ((F_X6_atom5 r15.1 r15.2).bind fun r20 =>
   (F_X6_term5_k5 n r20.2.1 r20.2.2 ((x1 * r20.1)))))))
def F_X6_term5 (M : Mi) (L : Ml) : Option (Int32 × Mi × Ml) :=
  ((F_X6_atom5 M L).bind fun r1 =>
  (F_X6_term5_k5 FU r1.2.1 r1.2.2 r1.1))
def F_X6_added5_k62 (kf5 : Mi → Ml → Int32 → Option (Int32 × Mi × Ml)) (M : Mi) (L : Ml) (s0 : Int32) : Option (Int32 × Mi × Ml) :=
  (kf5 M L s0)
def F_X6_added5_k39 (kf5 : Mi → Ml → Int32 → Option (Int32 × Mi × Ml)) (M : Mi) (L : Ml) (x1 : Int32) (s0 : Int32) : Option (Int32 × Mi × Ml) :=
  ((F_X6_next M L).bind fun r41 =>
  ((F_X6_term5 r41.1 r41.2).bind fun r45 =>
  (if s0 = 0 then (F_X6_added5_k62 kf5 r45.2.1 r45.2.2 ((x1 - r45.1))) else
 (F_X6_added5_k62 kf5 r45.2.1 r45.2.2 ((x1 + r45.1))))))
def F_X6_added5_k23 (kf5 : Mi → Ml → Int32 → Option (Int32 × Mi × Ml)) (M : Mi) (L : Ml) (x1 : Int32) : Option (Int32 × Mi × Ml) :=
  (if (lg_cmp (L 0 24) (43 : Int64)) = 0 then (F_X6_added5_k39 kf5 M L x1 ((1 : Int32))) else
 (F_X6_added5_k39 kf5 M L x1 ((0 : Int32))))
def F_X6_added5_k5 : Nat → Mi → Ml → Int32 → Option (Int32 × Mi × Ml)
  | 0, _, _, _ => none
  | n + 1, M, L, x1 =>
  ((F_X6_isSign M L (43 : Int32)).bind fun v8 =>
  (if v8 = 0 then ((F_X6_isSign M L (45 : Int32)).bind fun v17 =>
   (if v17 = 0 then (some (x1, M, L)) else
  (F_X6_added5_k23 (F_X6_added5_k5 n) M L x1))) else
 (F_X6_added5_k23 (F_X6_added5_k5 n) M L x1)))
def F_X6_added5 (M : Mi) (L : Ml) : Option (Int32 × Mi × Ml) :=
  ((F_X6_term5 M L).bind fun r1 =>
  (F_X6_added5_k5 FU r1.2.1 r1.2.2 r1.1))
def F_X6_not5_k93 (M : Mi) (L : Ml) : Option (Int32 × Mi × Ml) :=
  (some ((1 : Int32), M, L))
def F_X6_not5_k66 (M : Mi) (L : Ml) (x1 : Int32) (s0 : Int32) : Option (Int32 × Mi × Ml) :=
  ((F_X6_next M L).bind fun r68 =>
  ((F_X6_added5 r68.1 r68.2).bind fun r72 =>
  (if s0 = 0 then (if x1 = r72.1 then (F_X6_not5_k93 r72.2.1 r72.2.2) else
  (some ((0 : Int32), r72.2.1, r72.2.2))) else
 (if r72.1 ≤ x1 then (some ((0 : Int32), r72.2.1, r72.2.2)) else
  (F_X6_not5_k93 r72.2.1 r72.2.2)))))
def F_X6_not5_k50 (M : Mi) (L : Ml) (x1 : Int32) : Option (Int32 × Mi × Ml) :=
  (if (lg_cmp (L 0 24) (60 : Int64)) = 0 then (F_X6_not5_k66 M L x1 ((1 : Int32))) else
 (F_X6_not5_k66 M L x1 ((0 : Int32))))
def F_X6_not5 (M : Mi) (L : Ml) : Option (Int32 × Mi × Ml) :=
  ((F_X6_isWord M L (110 : Int32) (111 : Int32) (116 : Int32) (0 : Int32) (0 : Int32) (0 : Int32) (0 : Int32) (0 : Int32)).bind fun v12 =>
  (if v12 = 0 then ((F_X6_added5 M L).bind fun r26 =>
   ((F_X6_isSign r26.2.1 r26.2.2 (60 : Int32)).bind fun v33 =>
   (if v33 = 0 then ((F_X6_isSign r26.2.1 r26.2.2 (61 : Int32)).bind fun v42 =>
    (if v42 = 0 then (some (r26.1, r26.2.1, r26.2.2)) else
   (F_X6_not5_k50 r26.2.1 r26.2.2 r26.1))) else
  (F_X6_not5_k50 r26.2.1 r26.2.2 r26.1)))) else
 ((F_X6_opens M L).bind fun r19 =>
   (some ((0 : Int32), r19.2.1, r19.2.2)))))
def F_X6_both5_k45 (kf5 : Mi → Ml → Int32 → Option (Int32 × Mi × Ml)) (M : Mi) (L : Ml) (s0 : Int32) : Option (Int32 × Mi × Ml) :=
  (kf5 M L s0)
def F_X6_both5_k44 (kf5 : Mi → Ml → Int32 → Option (Int32 × Mi × Ml)) (M : Mi) (L : Ml) : Option (Int32 × Mi × Ml) :=
  (F_X6_both5_k45 kf5 M L ((0 : Int32)))
def F_X6_both5_k5 : Nat → Mi → Ml → Int32 → Option (Int32 × Mi × Ml)
  | 0, _, _, _ => none
  | n + 1, M, L, x1 =>
  ((F_X6_isWord M L (97 : Int32) (110 : Int32) (100 : Int32) (0 : Int32) (0 : Int32) (0 : Int32) (0 : Int32) (0 : Int32)).bind fun v17 =>
  (if v17 = 0 then (some (x1, M, L)) else
 ((F_X6_next M L).bind fun r24 =>
   ((F_X6_not5 r24.1 r24.2).bind fun r28 =>
   (if x1 = 0 then (F_X6_both5_k44 (F_X6_both5_k5 n) r28.2.1 r28.2.2) else
  (if r28.1 = 0 then (F_X6_both5_k44 (F_X6_both5_k5 n) r28.2.1 r28.2.2) else
   (F_X6_both5_k45 (F_X6_both5_k5 n) r28.2.1 r28.2.2 ((1 : Int32)))))))))
def F_X6_both5 (M : Mi) (L : Ml) : Option (Int32 × Mi × Ml) :=
  ((F_X6_not5 M L).bind fun r1 =>
  (F_X6_both5_k5 FU r1.2.1 r1.2.2 r1.1))
def F_X6_either5_k44 (kf5 : Mi → Ml → Int32 → Option (Int32 × Mi × Ml)) (M : Mi) (L : Ml) (s0 : Int32) : Option (Int32 × Mi × Ml) :=
  (kf5 M L s0)
def F_X6_either5_k39 (kf5 : Mi → Ml → Int32 → Option (Int32 × Mi × Ml)) (M : Mi) (L : Ml) : Option (Int32 × Mi × Ml) :=
  (F_X6_either5_k44 kf5 M L ((1 : Int32)))
def F_X6_either5_k5 : Nat → Mi → Ml → Int32 → Option (Int32 × Mi × Ml)
  | 0, _, _, _ => none
  | n + 1, M, L, x1 =>
  ((F_X6_isWord M L (111 : Int32) (114 : Int32) (0 : Int32) (0 : Int32) (0 : Int32) (0 : Int32) (0 : Int32) (0 : Int32)).bind fun v16 =>
  (if v16 = 0 then (some (x1, M, L)) else
 ((F_X6_next M L).bind fun r23 =>
   ((F_X6_both5 r23.1 r23.2).bind fun r27 =>
   (if x1 = 0 then (if r27.1 = 0 then (F_X6_either5_k44 (F_X6_either5_k5 n) r27.2.1 r27.2.2 ((0 : Int32))) else
   (F_X6_either5_k39 (F_X6_either5_k5 n) r27.2.1 r27.2.2)) else
  (F_X6_either5_k39 (F_X6_either5_k5 n) r27.2.1 r27.2.2))))))
def F_X6_either5 (M : Mi) (L : Ml) : Option (Int32 × Mi × Ml) :=
  ((F_X6_both5 M L).bind fun r1 =>
  (F_X6_either5_k5 FU r1.2.1 r1.2.2 r1.1))
def F_X6_atom4_k157 (M : Mi) (L : Ml) (x1 : Int32) : Option (Int32 × Mi × Ml) :=
  ((F_X6_fail M L).bind fun r158 =>
  (some (x1, r158.1, r158.2)))
def F_X6_atom4_k123 (M : Mi) (L : Ml) (x1 : Int32) : Option (Int32 × Mi × Ml) :=
  (if (M 0 26) = 0 then (if (M 0 22) = (1 : Int32) then ((F_X6_name M L).bind fun r139 =>
    (if (r139.2.1 0 26) = 0 then ((F_X6_next r139.2.1 r139.2.2).bind fun r151 =>
     (some (r139.1, r151.1, r151.2))) else
   (some (r139.1, r139.2.1, r139.2.2)))) else
  (F_X6_atom4_k157 M L x1)) else
 (F_X6_atom4_k157 M L x1))
def F_X6_atom4_k71 (M : Mi) (L : Ml) (x1 : Int32) : Option (Int32 × Mi × Ml) :=
  (if ((up2 M 0 25 ((M 0 25) - (1 : Int32))) 0 26) = 0 then ((F_X6_next (up2 M 0 25 ((M 0 25) - (1 : Int32))) L).bind fun r89 =>
   (some (x1, r89.1, r89.2))) else
 (some (x1, (up2 M 0 25 ((M 0 25) - (1 : Int32))), L)))
def F_X6_atom4 (M : Mi) (L : Ml) : Option (Int32 × Mi × Ml) :=
  ((F_X6_isSign M L (45 : Int32)).bind fun v5 =>
  (if v5 = 0 then ((F_X6_isSign M L (40 : Int32)).bind fun v40 =>
   (if v40 = 0 then (if (M 0 26) = 0 then (if (M 0 22) = (2 : Int32) then ((F_X6_next M L).bind fun r117 =>
      (some ((Int64.toInt32 (L 0 24)), r117.1, r117.2))) else
    (F_X6_atom4_k123 M L ((0 : Int32)))) else
   (F_X6_atom4_k123 M L ((0 : Int32)))) else
  ((F_X6_opens M L).bind fun r47 =>
    (if r47.1 = 0 then (some ((0 : Int32), r47.2.1, r47.2.2)) else
   ((F_X6_either5 r47.2.1 r47.2.2).bind fun r54 =>
     ((F_X6_isSign r54.2.1 r54.2.2 (41 : Int32)).bind fun v61 =>
     (if v61 = 0 then ((F_X6_fail r54.2.1 r54.2.2).bind fun r68 =>
      (F_X6_atom4_k71 r68.1 r68.2 r54.1)) else
    (F_X6_atom4_k71 r54.2.1 r54.2.2 r54.1)))))))) else
 ((F_X6_opens M L).bind fun r12 =>
   (if r12.1 = 0 then (some ((0 : Int32), r12.2.1, r12.2.2)) else
  ((F_X6_atom5 r12.2.1 r12.2.2).bind fun r19 =>
    (some ((-r19.1), (up2 r19.2.1 0 25 ((r19.2.1 0 25) - (1 : Int32))), r19.2.2)))))))
def F_X6_term4_k5 : Nat → Mi → Ml → Int32 → Option (Int32 × Mi × Ml)
  | 0, _, _, _ => none
  | n + 1, M, L, x1 =>
  ((F_X6_isSign M L (42 : Int32)).bind fun v8 =>
  (if v8 = 0 then (some (x1, M, L)) else
 ((F_X6_next M L).bind fun r15 =>
   ((F_X6_atom4 r15.1 r15.2).bind fun r20 =>
   (F_X6_term4_k5 n r20.2.1 r20.2.2 ((x1 * r20.1)))))))
def F_X6_term4 (M : Mi) (L : Ml) : Option (Int32 × Mi × Ml) :=
  ((F_X6_atom4 M L).bind fun r1 =>
  (F_X6_term4_k5 FU r1.2.1 r1.2.2 r1.1))
def F_X6_added4_k62 (kf5 : Mi → Ml → Int32 → Option (Int32 × Mi × Ml)) (M : Mi) (L : Ml) (s0 : Int32) : Option (Int32 × Mi × Ml) :=
  (kf5 M L s0)
def F_X6_added4_k39 (kf5 : Mi → Ml → Int32 → Option (Int32 × Mi × Ml)) (M : Mi) (L : Ml) (x1 : Int32) (s0 : Int32) : Option (Int32 × Mi × Ml) :=
  ((F_X6_next M L).bind fun r41 =>
  ((F_X6_term4 r41.1 r41.2).bind fun r45 =>
  (if s0 = 0 then (F_X6_added4_k62 kf5 r45.2.1 r45.2.2 ((x1 - r45.1))) else
 (F_X6_added4_k62 kf5 r45.2.1 r45.2.2 ((x1 + r45.1))))))
def F_X6_added4_k23 (kf5 : Mi → Ml → Int32 → Option (Int32 × Mi × Ml)) (M : Mi) (L : Ml) (x1 : Int32) : Option (Int32 × Mi × Ml) :=
  (if (lg_cmp (L 0 24) (43 : Int64)) = 0 then (F_X6_added4_k39 kf5 M L x1 ((1 : Int32))) else
 (F_X6_added4_k39 kf5 M L x1 ((0 : Int32))))
def F_X6_added4_k5 : Nat → Mi → Ml → Int32 → Option (Int32 × Mi × Ml)
  | 0, _, _, _ => none
  | n + 1, M, L, x1 =>
  ((F_X6_isSign M L (43 : Int32)).bind fun v8 =>
  (if v8 = 0 then ((F_X6_isSign M L (45 : Int32)).bind fun v17 =>
   (if v17 = 0 then (some (x1, M, L)) else
  (F_X6_added4_k23 (F_X6_added4_k5 n) M L x1))) else
 (F_X6_added4_k23 (F_X6_added4_k5 n) M L x1)))
def F_X6_added4 (M : Mi) (L : Ml) : Option (Int32 × Mi × Ml) :=
  ((F_X6_term4 M L).bind fun r1 =>
  (F_X6_added4_k5 FU r1.2.1 r1.2.2 r1.1))
def F_X6_not4_k120 (M : Mi) (L : Ml) : Option (Int32 × Mi × Ml) :=
  (some ((1 : Int32), M, L))
def F_X6_not4_k93 (M : Mi) (L : Ml) (x1 : Int32) (s0 : Int32) : Option (Int32 × Mi × Ml) :=
  ((F_X6_next M L).bind fun r95 =>
  ((F_X6_added4 r95.1 r95.2).bind fun r99 =>
  (if s0 = 0 then (if x1 = r99.1 then (F_X6_not4_k120 r99.2.1 r99.2.2) else
  (some ((0 : Int32), r99.2.1, r99.2.2))) else
 (if r99.1 ≤ x1 then (some ((0 : Int32), r99.2.1, r99.2.2)) else
  (F_X6_not4_k120 r99.2.1 r99.2.2)))))
def F_X6_not4_k77 (M : Mi) (L : Ml) (x1 : Int32) : Option (Int32 × Mi × Ml) :=
  (if (lg_cmp (L 0 24) (60 : Int64)) = 0 then (F_X6_not4_k93 M L x1 ((1 : Int32))) else
 (F_X6_not4_k93 M L x1 ((0 : Int32))))
def F_X6_not4 (M : Mi) (L : Ml) : Option (Int32 × Mi × Ml) :=
  ((F_X6_isWord M L (110 : Int32) (111 : Int32) (116 : Int32) (0 : Int32) (0 : Int32) (0 : Int32) (0 : Int32) (0 : Int32)).bind fun v12 =>
  (if v12 = 0 then ((F_X6_added4 M L).bind fun r53 =>
   ((F_X6_isSign r53.2.1 r53.2.2 (60 : Int32)).bind fun v60 =>
   (if v60 = 0 then ((F_X6_isSign r53.2.1 r53.2.2 (61 : Int32)).bind fun v69 =>
    (if v69 = 0 then (some (r53.1, r53.2.1, r53.2.2)) else
   (F_X6_not4_k77 r53.2.1 r53.2.2 r53.1))) else
  (F_X6_not4_k77 r53.2.1 r53.2.2 r53.1)))) else
 ((F_X6_opens M L).bind fun r19 =>
   (if r19.1 = 0 then (some ((0 : Int32), r19.2.1, r19.2.2)) else
  ((F_X6_not5 r19.2.1 r19.2.2).bind fun r28 =>
    (if r28.1 = 0 then (some ((1 : Int32), (up2 r28.2.1 0 25 ((r28.2.1 0 25) - (1 : Int32))), r28.2.2)) else
   (some ((0 : Int32), (up2 r28.2.1 0 25 ((r28.2.1 0 25) - (1 : Int32))), r28.2.2))))))))
def F_X6_both4_k45 (kf5 : Mi → Ml → Int32 → Option (Int32 × Mi × Ml)) (M : Mi) (L : Ml) (s0 : Int32) : Option (Int32 × Mi × Ml) :=
  (kf5 M L s0)
def F_X6_both4_k44 (kf5 : Mi → Ml → Int32 → Option (Int32 × Mi × Ml)) (M : Mi) (L : Ml) : Option (Int32 × Mi × Ml) :=
  (F_X6_both4_k45 kf5 M L ((0 : Int32)))
def F_X6_both4_k5 : Nat → Mi → Ml → Int32 → Option (Int32 × Mi × Ml)
  | 0, _, _, _ => none
  | n + 1, M, L, x1 =>
  ((F_X6_isWord M L (97 : Int32) (110 : Int32) (100 : Int32) (0 : Int32) (0 : Int32) (0 : Int32) (0 : Int32) (0 : Int32)).bind fun v17 =>
  (if v17 = 0 then (some (x1, M, L)) else
 ((F_X6_next M L).bind fun r24 =>
   ((F_X6_not4 r24.1 r24.2).bind fun r28 =>
   (if x1 = 0 then (F_X6_both4_k44 (F_X6_both4_k5 n) r28.2.1 r28.2.2) else
  (if r28.1 = 0 then (F_X6_both4_k44 (F_X6_both4_k5 n) r28.2.1 r28.2.2) else
   (F_X6_both4_k45 (F_X6_both4_k5 n) r28.2.1 r28.2.2 ((1 : Int32)))))))))
def F_X6_both4 (M : Mi) (L : Ml) : Option (Int32 × Mi × Ml) :=
  ((F_X6_not4 M L).bind fun r1 =>
  (F_X6_both4_k5 FU r1.2.1 r1.2.2 r1.1))
def F_X6_either4_k44 (kf5 : Mi → Ml → Int32 → Option (Int32 × Mi × Ml)) (M : Mi) (L : Ml) (s0 : Int32) : Option (Int32 × Mi × Ml) :=
  (kf5 M L s0)
def F_X6_either4_k39 (kf5 : Mi → Ml → Int32 → Option (Int32 × Mi × Ml)) (M : Mi) (L : Ml) : Option (Int32 × Mi × Ml) :=
  (F_X6_either4_k44 kf5 M L ((1 : Int32)))
def F_X6_either4_k5 : Nat → Mi → Ml → Int32 → Option (Int32 × Mi × Ml)
  | 0, _, _, _ => none
  | n + 1, M, L, x1 =>
  ((F_X6_isWord M L (111 : Int32) (114 : Int32) (0 : Int32) (0 : Int32) (0 : Int32) (0 : Int32) (0 : Int32) (0 : Int32)).bind fun v16 =>
  (if v16 = 0 then (some (x1, M, L)) else
 ((F_X6_next M L).bind fun r23 =>
   ((F_X6_both4 r23.1 r23.2).bind fun r27 =>
   (if x1 = 0 then (if r27.1 = 0 then (F_X6_either4_k44 (F_X6_either4_k5 n) r27.2.1 r27.2.2 ((0 : Int32))) else
   (F_X6_either4_k39 (F_X6_either4_k5 n) r27.2.1 r27.2.2)) else
  (F_X6_either4_k39 (F_X6_either4_k5 n) r27.2.1 r27.2.2))))))
def F_X6_either4 (M : Mi) (L : Ml) : Option (Int32 × Mi × Ml) :=
  ((F_X6_both4 M L).bind fun r1 =>
  (F_X6_either4_k5 FU r1.2.1 r1.2.2 r1.1))
def F_X6_atom3_k157 (M : Mi) (L : Ml) (x1 : Int32) : Option (Int32 × Mi × Ml) :=
  ((F_X6_fail M L).bind fun r158 =>
  (some (x1, r158.1, r158.2)))
def F_X6_atom3_k123 (M : Mi) (L : Ml) (x1 : Int32) : Option (Int32 × Mi × Ml) :=
  (if (M 0 26) = 0 then (if (M 0 22) = (1 : Int32) then ((F_X6_name M L).bind fun r139 =>
    (if (r139.2.1 0 26) = 0 then ((F_X6_next r139.2.1 r139.2.2).bind fun r151 =>
     (some (r139.1, r151.1, r151.2))) else
   (some (r139.1, r139.2.1, r139.2.2)))) else
  (F_X6_atom3_k157 M L x1)) else
 (F_X6_atom3_k157 M L x1))
def F_X6_atom3_k71 (M : Mi) (L : Ml) (x1 : Int32) : Option (Int32 × Mi × Ml) :=
  (if ((up2 M 0 25 ((M 0 25) - (1 : Int32))) 0 26) = 0 then ((F_X6_next (up2 M 0 25 ((M 0 25) - (1 : Int32))) L).bind fun r89 =>
   (some (x1, r89.1, r89.2))) else
 (some (x1, (up2 M 0 25 ((M 0 25) - (1 : Int32))), L)))
def F_X6_atom3 (M : Mi) (L : Ml) : Option (Int32 × Mi × Ml) :=
  ((F_X6_isSign M L (45 : Int32)).bind fun v5 =>
  (if v5 = 0 then ((F_X6_isSign M L (40 : Int32)).bind fun v40 =>
   (if v40 = 0 then (if (M 0 26) = 0 then (if (M 0 22) = (2 : Int32) then ((F_X6_next M L).bind fun r117 =>
      (some ((Int64.toInt32 (L 0 24)), r117.1, r117.2))) else
    (F_X6_atom3_k123 M L ((0 : Int32)))) else
   (F_X6_atom3_k123 M L ((0 : Int32)))) else
  ((F_X6_opens M L).bind fun r47 =>
    (if r47.1 = 0 then (some ((0 : Int32), r47.2.1, r47.2.2)) else
   ((F_X6_either4 r47.2.1 r47.2.2).bind fun r54 =>
     ((F_X6_isSign r54.2.1 r54.2.2 (41 : Int32)).bind fun v61 =>
     (if v61 = 0 then ((F_X6_fail r54.2.1 r54.2.2).bind fun r68 =>
      (F_X6_atom3_k71 r68.1 r68.2 r54.1)) else
    (F_X6_atom3_k71 r54.2.1 r54.2.2 r54.1)))))))) else
 ((F_X6_opens M L).bind fun r12 =>
   (if r12.1 = 0 then (some ((0 : Int32), r12.2.1, r12.2.2)) else
  ((F_X6_atom4 r12.2.1 r12.2.2).bind fun r19 =>
    (some ((-r19.1), (up2 r19.2.1 0 25 ((r19.2.1 0 25) - (1 : Int32))), r19.2.2)))))))
def F_X6_term3_k5 : Nat → Mi → Ml → Int32 → Option (Int32 × Mi × Ml)
  | 0, _, _, _ => none
  | n + 1, M, L, x1 =>
  ((F_X6_isSign M L (42 : Int32)).bind fun v8 =>
  (if v8 = 0 then (some (x1, M, L)) else
 ((F_X6_next M L).bind fun r15 =>
   ((F_X6_atom3 r15.1 r15.2).bind fun r20 =>
   (F_X6_term3_k5 n r20.2.1 r20.2.2 ((x1 * r20.1)))))))
def F_X6_term3 (M : Mi) (L : Ml) : Option (Int32 × Mi × Ml) :=
  ((F_X6_atom3 M L).bind fun r1 =>
  (F_X6_term3_k5 FU r1.2.1 r1.2.2 r1.1))
def F_X6_added3_k62 (kf5 : Mi → Ml → Int32 → Option (Int32 × Mi × Ml)) (M : Mi) (L : Ml) (s0 : Int32) : Option (Int32 × Mi × Ml) :=
  (kf5 M L s0)
def F_X6_added3_k39 (kf5 : Mi → Ml → Int32 → Option (Int32 × Mi × Ml)) (M : Mi) (L : Ml) (x1 : Int32) (s0 : Int32) : Option (Int32 × Mi × Ml) :=
  ((F_X6_next M L).bind fun r41 =>
  ((F_X6_term3 r41.1 r41.2).bind fun r45 =>
  (if s0 = 0 then (F_X6_added3_k62 kf5 r45.2.1 r45.2.2 ((x1 - r45.1))) else
 (F_X6_added3_k62 kf5 r45.2.1 r45.2.2 ((x1 + r45.1))))))
def F_X6_added3_k23 (kf5 : Mi → Ml → Int32 → Option (Int32 × Mi × Ml)) (M : Mi) (L : Ml) (x1 : Int32) : Option (Int32 × Mi × Ml) :=
  (if (lg_cmp (L 0 24) (43 : Int64)) = 0 then (F_X6_added3_k39 kf5 M L x1 ((1 : Int32))) else
 (F_X6_added3_k39 kf5 M L x1 ((0 : Int32))))
def F_X6_added3_k5 : Nat → Mi → Ml → Int32 → Option (Int32 × Mi × Ml)
  | 0, _, _, _ => none
  | n + 1, M, L, x1 =>
  ((F_X6_isSign M L (43 : Int32)).bind fun v8 =>
  (if v8 = 0 then ((F_X6_isSign M L (45 : Int32)).bind fun v17 =>
   (if v17 = 0 then (some (x1, M, L)) else
  (F_X6_added3_k23 (F_X6_added3_k5 n) M L x1))) else
 (F_X6_added3_k23 (F_X6_added3_k5 n) M L x1)))
def F_X6_added3 (M : Mi) (L : Ml) : Option (Int32 × Mi × Ml) :=
  ((F_X6_term3 M L).bind fun r1 =>
  (F_X6_added3_k5 FU r1.2.1 r1.2.2 r1.1))
def F_X6_not3_k120 (M : Mi) (L : Ml) : Option (Int32 × Mi × Ml) :=
  (some ((1 : Int32), M, L))
def F_X6_not3_k93 (M : Mi) (L : Ml) (x1 : Int32) (s0 : Int32) : Option (Int32 × Mi × Ml) :=
  ((F_X6_next M L).bind fun r95 =>
  ((F_X6_added3 r95.1 r95.2).bind fun r99 =>
  (if s0 = 0 then (if x1 = r99.1 then (F_X6_not3_k120 r99.2.1 r99.2.2) else
  (some ((0 : Int32), r99.2.1, r99.2.2))) else
 (if r99.1 ≤ x1 then (some ((0 : Int32), r99.2.1, r99.2.2)) else
  (F_X6_not3_k120 r99.2.1 r99.2.2)))))
def F_X6_not3_k77 (M : Mi) (L : Ml) (x1 : Int32) : Option (Int32 × Mi × Ml) :=
  (if (lg_cmp (L 0 24) (60 : Int64)) = 0 then (F_X6_not3_k93 M L x1 ((1 : Int32))) else
 (F_X6_not3_k93 M L x1 ((0 : Int32))))
def F_X6_not3 (M : Mi) (L : Ml) : Option (Int32 × Mi × Ml) :=
  ((F_X6_isWord M L (110 : Int32) (111 : Int32) (116 : Int32) (0 : Int32) (0 : Int32) (0 : Int32) (0 : Int32) (0 : Int32)).bind fun v12 =>
  (if v12 = 0 then ((F_X6_added3 M L).bind fun r53 =>
   ((F_X6_isSign r53.2.1 r53.2.2 (60 : Int32)).bind fun v60 =>
   (if v60 = 0 then ((F_X6_isSign r53.2.1 r53.2.2 (61 : Int32)).bind fun v69 =>
    (if v69 = 0 then (some (r53.1, r53.2.1, r53.2.2)) else
   (F_X6_not3_k77 r53.2.1 r53.2.2 r53.1))) else
  (F_X6_not3_k77 r53.2.1 r53.2.2 r53.1)))) else
 ((F_X6_opens M L).bind fun r19 =>
   (if r19.1 = 0 then (some ((0 : Int32), r19.2.1, r19.2.2)) else
  ((F_X6_not4 r19.2.1 r19.2.2).bind fun r28 =>
    (if r28.1 = 0 then (some ((1 : Int32), (up2 r28.2.1 0 25 ((r28.2.1 0 25) - (1 : Int32))), r28.2.2)) else
   (some ((0 : Int32), (up2 r28.2.1 0 25 ((r28.2.1 0 25) - (1 : Int32))), r28.2.2))))))))
def F_X6_both3_k45 (kf5 : Mi → Ml → Int32 → Option (Int32 × Mi × Ml)) (M : Mi) (L : Ml) (s0 : Int32) : Option (Int32 × Mi × Ml) :=
  (kf5 M L s0)
def F_X6_both3_k44 (kf5 : Mi → Ml → Int32 → Option (Int32 × Mi × Ml)) (M : Mi) (L : Ml) : Option (Int32 × Mi × Ml) :=
  (F_X6_both3_k45 kf5 M L ((0 : Int32)))
def F_X6_both3_k5 : Nat → Mi → Ml → Int32 → Option (Int32 × Mi × Ml)
  | 0, _, _, _ => none
  | n + 1, M, L, x1 =>
  ((F_X6_isWord M L (97 : Int32) (110 : Int32) (100 : Int32) (0 : Int32) (0 : Int32) (0 : Int32) (0 : Int32) (0 : Int32)).bind fun v17 =>
  (if v17 = 0 then (some (x1, M, L)) else
 ((F_X6_next M L).bind fun r24 =>
   ((F_X6_not3 r24.1 r24.2).bind fun r28 =>
   (if x1 = 0 then (F_X6_both3_k44 (F_X6_both3_k5 n) r28.2.1 r28.2.2) else
  (if r28.1 = 0 then (F_X6_both3_k44 (F_X6_both3_k5 n) r28.2.1 r28.2.2) else
   (F_X6_both3_k45 (F_X6_both3_k5 n) r28.2.1 r28.2.2 ((1 : Int32)))))))))
def F_X6_both3 (M : Mi) (L : Ml) : Option (Int32 × Mi × Ml) :=
  ((F_X6_not3 M L).bind fun r1 =>
  (F_X6_both3_k5 FU r1.2.1 r1.2.2 r1.1))
def F_X6_either3_k44 (kf5 : Mi → Ml → Int32 → Option (Int32 × Mi × Ml)) (M : Mi) (L : Ml) (s0 : Int32) : Option (Int32 × Mi × Ml) :=
  (kf5 M L s0)
def F_X6_either3_k39 (kf5 : Mi → Ml → Int32 → Option (Int32 × Mi × Ml)) (M : Mi) (L : Ml) : Option (Int32 × Mi × Ml) :=
  (F_X6_either3_k44 kf5 M L ((1 : Int32)))
def F_X6_either3_k5 : Nat → Mi → Ml → Int32 → Option (Int32 × Mi × Ml)
  | 0, _, _, _ => none
  | n + 1, M, L, x1 =>
  ((F_X6_isWord M L (111 : Int32) (114 : Int32) (0 : Int32) (0 : Int32) (0 : Int32) (0 : Int32) (0 : Int32) (0 : Int32)).bind fun v16 =>
  (if v16 = 0 then (some (x1, M, L)) else
 ((F_X6_next M L).bind fun r23 =>
   ((F_X6_both3 r23.1 r23.2).bind fun r27 =>
   (if x1 = 0 then (if r27.1 = 0 then (F_X6_either3_k44 (F_X6_either3_k5 n) r27.2.1 r27.2.2 ((0 : Int32))) else
   (F_X6_either3_k39 (F_X6_either3_k5 n) r27.2.1 r27.2.2)) else
  (F_X6_either3_k39 (F_X6_either3_k5 n) r27.2.1 r27.2.2))))))
def F_X6_either3 (M : Mi) (L : Ml) : Option (Int32 × Mi × Ml) :=
  ((F_X6_both3 M L).bind fun r1 =>
  (F_X6_either3_k5 FU r1.2.1 r1.2.2 r1.1))
def F_X6_atom2_k157 (M : Mi) (L : Ml) (x1 : Int32) : Option (Int32 × Mi × Ml) :=
  ((F_X6_fail M L).bind fun r158 =>
  (some (x1, r158.1, r158.2)))
def F_X6_atom2_k123 (M : Mi) (L : Ml) (x1 : Int32) : Option (Int32 × Mi × Ml) :=
  (if (M 0 26) = 0 then (if (M 0 22) = (1 : Int32) then ((F_X6_name M L).bind fun r139 =>
    (if (r139.2.1 0 26) = 0 then ((F_X6_next r139.2.1 r139.2.2).bind fun r151 =>
     (some (r139.1, r151.1, r151.2))) else
   (some (r139.1, r139.2.1, r139.2.2)))) else
  (F_X6_atom2_k157 M L x1)) else
 (F_X6_atom2_k157 M L x1))
def F_X6_atom2_k71 (M : Mi) (L : Ml) (x1 : Int32) : Option (Int32 × Mi × Ml) :=
  (if ((up2 M 0 25 ((M 0 25) - (1 : Int32))) 0 26) = 0 then ((F_X6_next (up2 M 0 25 ((M 0 25) - (1 : Int32))) L).bind fun r89 =>
   (some (x1, r89.1, r89.2))) else
 (some (x1, (up2 M 0 25 ((M 0 25) - (1 : Int32))), L)))
def F_X6_atom2 (M : Mi) (L : Ml) : Option (Int32 × Mi × Ml) :=
  ((F_X6_isSign M L (45 : Int32)).bind fun v5 =>
  (if v5 = 0 then ((F_X6_isSign M L (40 : Int32)).bind fun v40 =>
   (if v40 = 0 then (if (M 0 26) = 0 then (if (M 0 22) = (2 : Int32) then ((F_X6_next M L).bind fun r117 =>
      (some ((Int64.toInt32 (L 0 24)), r117.1, r117.2))) else
    (F_X6_atom2_k123 M L ((0 : Int32)))) else
   (F_X6_atom2_k123 M L ((0 : Int32)))) else
  ((F_X6_opens M L).bind fun r47 =>
    (if r47.1 = 0 then (some ((0 : Int32), r47.2.1, r47.2.2)) else
   ((F_X6_either3 r47.2.1 r47.2.2).bind fun r54 =>
     ((F_X6_isSign r54.2.1 r54.2.2 (41 : Int32)).bind fun v61 =>
     (if v61 = 0 then ((F_X6_fail r54.2.1 r54.2.2).bind fun r68 =>
      (F_X6_atom2_k71 r68.1 r68.2 r54.1)) else
    (F_X6_atom2_k71 r54.2.1 r54.2.2 r54.1)))))))) else
 ((F_X6_opens M L).bind fun r12 =>
   (if r12.1 = 0 then (some ((0 : Int32), r12.2.1, r12.2.2)) else
  ((F_X6_atom3 r12.2.1 r12.2.2).bind fun r19 =>
    (some ((-r19.1), (up2 r19.2.1 0 25 ((r19.2.1 0 25) - (1 : Int32))), r19.2.2)))))))
def F_X6_term2_k5 : Nat → Mi → Ml → Int32 → Option (Int32 × Mi × Ml)
  | 0, _, _, _ => none
  | n + 1, M, L, x1 =>
  ((F_X6_isSign M L (42 : Int32)).bind fun v8 =>
  (if v8 = 0 then (some (x1, M, L)) else
 ((F_X6_next M L).bind fun r15 =>
   ((F_X6_atom2 r15.1 r15.2).bind fun r20 =>
   (F_X6_term2_k5 n r20.2.1 r20.2.2 ((x1 * r20.1)))))))
def F_X6_term2 (M : Mi) (L : Ml) : Option (Int32 × Mi × Ml) :=
  ((F_X6_atom2 M L).bind fun r1 =>
  (F_X6_term2_k5 FU r1.2.1 r1.2.2 r1.1))
def F_X6_added2_k62 (kf5 : Mi → Ml → Int32 → Option (Int32 × Mi × Ml)) (M : Mi) (L : Ml) (s0 : Int32) : Option (Int32 × Mi × Ml) :=
  (kf5 M L s0)
def F_X6_added2_k39 (kf5 : Mi → Ml → Int32 → Option (Int32 × Mi × Ml)) (M : Mi) (L : Ml) (x1 : Int32) (s0 : Int32) : Option (Int32 × Mi × Ml) :=
  ((F_X6_next M L).bind fun r41 =>
  ((F_X6_term2 r41.1 r41.2).bind fun r45 =>
  (if s0 = 0 then (F_X6_added2_k62 kf5 r45.2.1 r45.2.2 ((x1 - r45.1))) else
 (F_X6_added2_k62 kf5 r45.2.1 r45.2.2 ((x1 + r45.1))))))
def F_X6_added2_k23 (kf5 : Mi → Ml → Int32 → Option (Int32 × Mi × Ml)) (M : Mi) (L : Ml) (x1 : Int32) : Option (Int32 × Mi × Ml) :=
  (if (lg_cmp (L 0 24) (43 : Int64)) = 0 then (F_X6_added2_k39 kf5 M L x1 ((1 : Int32))) else
 (F_X6_added2_k39 kf5 M L x1 ((0 : Int32))))
def F_X6_added2_k5 : Nat → Mi → Ml → Int32 → Option (Int32 × Mi × Ml)
  | 0, _, _, _ => none
  | n + 1, M, L, x1 =>
  ((F_X6_isSign M L (43 : Int32)).bind fun v8 =>
  (if v8 = 0 then ((F_X6_isSign M L (45 : Int32)).bind fun v17 =>
   (if v17 = 0 then (some (x1, M, L)) else
  (F_X6_added2_k23 (F_X6_added2_k5 n) M L x1))) else
 (F_X6_added2_k23 (F_X6_added2_k5 n) M L x1)))
def F_X6_added2 (M : Mi) (L : Ml) : Option (Int32 × Mi × Ml) :=
  ((F_X6_term2 M L).bind fun r1 =>
  (F_X6_added2_k5 FU r1.2.1 r1.2.2 r1.1))
def F_X6_not2_k120 (M : Mi) (L : Ml) : Option (Int32 × Mi × Ml) :=
  (some ((1 : Int32), M, L))
def F_X6_not2_k93 (M : Mi) (L : Ml) (x1 : Int32) (s0 : Int32) : Option (Int32 × Mi × Ml) :=
  ((F_X6_next M L).bind fun r95 =>
  ((F_X6_added2 r95.1 r95.2).bind fun r99 =>
  (if s0 = 0 then (if x1 = r99.1 then (F_X6_not2_k120 r99.2.1 r99.2.2) else
  (some ((0 : Int32), r99.2.1, r99.2.2))) else
 (if r99.1 ≤ x1 then (some ((0 : Int32), r99.2.1, r99.2.2)) else
  (F_X6_not2_k120 r99.2.1 r99.2.2)))))
def F_X6_not2_k77 (M : Mi) (L : Ml) (x1 : Int32) : Option (Int32 × Mi × Ml) :=
  (if (lg_cmp (L 0 24) (60 : Int64)) = 0 then (F_X6_not2_k93 M L x1 ((1 : Int32))) else
 (F_X6_not2_k93 M L x1 ((0 : Int32))))
def F_X6_not2 (M : Mi) (L : Ml) : Option (Int32 × Mi × Ml) :=
  ((F_X6_isWord M L (110 : Int32) (111 : Int32) (116 : Int32) (0 : Int32) (0 : Int32) (0 : Int32) (0 : Int32) (0 : Int32)).bind fun v12 =>
  (if v12 = 0 then ((F_X6_added2 M L).bind fun r53 =>
   ((F_X6_isSign r53.2.1 r53.2.2 (60 : Int32)).bind fun v60 =>
   (if v60 = 0 then ((F_X6_isSign r53.2.1 r53.2.2 (61 : Int32)).bind fun v69 =>
    (if v69 = 0 then (some (r53.1, r53.2.1, r53.2.2)) else
   (F_X6_not2_k77 r53.2.1 r53.2.2 r53.1))) else
  (F_X6_not2_k77 r53.2.1 r53.2.2 r53.1)))) else
 ((F_X6_opens M L).bind fun r19 =>
   (if r19.1 = 0 then (some ((0 : Int32), r19.2.1, r19.2.2)) else
  ((F_X6_not3 r19.2.1 r19.2.2).bind fun r28 =>
    (if r28.1 = 0 then (some ((1 : Int32), (up2 r28.2.1 0 25 ((r28.2.1 0 25) - (1 : Int32))), r28.2.2)) else
   (some ((0 : Int32), (up2 r28.2.1 0 25 ((r28.2.1 0 25) - (1 : Int32))), r28.2.2))))))))
def F_X6_both2_k45 (kf5 : Mi → Ml → Int32 → Option (Int32 × Mi × Ml)) (M : Mi) (L : Ml) (s0 : Int32) : Option (Int32 × Mi × Ml) :=
  (kf5 M L s0)
def F_X6_both2_k44 (kf5 : Mi → Ml → Int32 → Option (Int32 × Mi × Ml)) (M : Mi) (L : Ml) : Option (Int32 × Mi × Ml) :=
  (F_X6_both2_k45 kf5 M L ((0 : Int32)))
def F_X6_both2_k5 : Nat → Mi → Ml → Int32 → Option (Int32 × Mi × Ml)
  | 0, _, _, _ => none
  | n + 1, M, L, x1 =>
  ((F_X6_isWord M L (97 : Int32) (110 : Int32) (100 : Int32) (0 : Int32) (0 : Int32) (0 : Int32) (0 : Int32) (0 : Int32)).bind fun v17 =>
  (if v17 = 0 then (some (x1, M, L)) else
 ((F_X6_next M L).bind fun r24 =>
   ((F_X6_not2 r24.1 r24.2).bind fun r28 =>
   (if x1 = 0 then (F_X6_both2_k44 (F_X6_both2_k5 n) r28.2.1 r28.2.2) else
  (if r28.1 = 0 then (F_X6_both2_k44 (F_X6_both2_k5 n) r28.2.1 r28.2.2) else
   (F_X6_both2_k45 (F_X6_both2_k5 n) r28.2.1 r28.2.2 ((1 : Int32)))))))))
def F_X6_both2 (M : Mi) (L : Ml) : Option (Int32 × Mi × Ml) :=
  ((F_X6_not2 M L).bind fun r1 =>
  (F_X6_both2_k5 FU r1.2.1 r1.2.2 r1.1))
def F_X6_either2_k44 (kf5 : Mi → Ml → Int32 → Option (Int32 × Mi × Ml)) (M : Mi) (L : Ml) (s0 : Int32) : Option (Int32 × Mi × Ml) :=
  (kf5 M L s0)
def F_X6_either2_k39 (kf5 : Mi → Ml → Int32 → Option (Int32 × Mi × Ml)) (M : Mi) (L : Ml) : Option (Int32 × Mi × Ml) :=
  (F_X6_either2_k44 kf5 M L ((1 : Int32)))
def F_X6_either2_k5 : Nat → Mi → Ml → Int32 → Option (Int32 × Mi × Ml)
  | 0, _, _, _ => none
  | n + 1, M, L, x1 =>
  ((F_X6_isWord M L (111 : Int32) (114 : Int32) (0 : Int32) (0 : Int32) (0 : Int32) (0 : Int32) (0 : Int32) (0 : Int32)).bind fun v16 =>
  (if v16 = 0 then (some (x1, M, L)) else
 ((F_X6_next M L).bind fun r23 =>
   ((F_X6_both2 r23.1 r23.2).bind fun r27 =>
   (if x1 = 0 then (if r27.1 = 0 then (F_X6_either2_k44 (F_X6_either2_k5 n) r27.2.1 r27.2.2 ((0 : Int32))) else
   (F_X6_either2_k39 (F_X6_either2_k5 n) r27.2.1 r27.2.2)) else
  (F_X6_either2_k39 (F_X6_either2_k5 n) r27.2.1 r27.2.2))))))
def F_X6_either2 (M : Mi) (L : Ml) : Option (Int32 × Mi × Ml) :=
  ((F_X6_both2 M L).bind fun r1 =>
  (F_X6_either2_k5 FU r1.2.1 r1.2.2 r1.1))
def F_X6_atom1_k157 (M : Mi) (L : Ml) (x1 : Int32) : Option (Int32 × Mi × Ml) :=
  ((F_X6_fail M L).bind fun r158 =>
  (some (x1, r158.1, r158.2)))
def F_X6_atom1_k123 (M : Mi) (L : Ml) (x1 : Int32) : Option (Int32 × Mi × Ml) :=
  (if (M 0 26) = 0 then (if (M 0 22) = (1 : Int32) then ((F_X6_name M L).bind fun r139 =>
    (if (r139.2.1 0 26) = 0 then ((F_X6_next r139.2.1 r139.2.2).bind fun r151 =>
     (some (r139.1, r151.1, r151.2))) else
   (some (r139.1, r139.2.1, r139.2.2)))) else
  (F_X6_atom1_k157 M L x1)) else
 (F_X6_atom1_k157 M L x1))
def F_X6_atom1_k71 (M : Mi) (L : Ml) (x1 : Int32) : Option (Int32 × Mi × Ml) :=
  (if ((up2 M 0 25 ((M 0 25) - (1 : Int32))) 0 26) = 0 then ((F_X6_next (up2 M 0 25 ((M 0 25) - (1 : Int32))) L).bind fun r89 =>
   (some (x1, r89.1, r89.2))) else
 (some (x1, (up2 M 0 25 ((M 0 25) - (1 : Int32))), L)))
def F_X6_atom1 (M : Mi) (L : Ml) : Option (Int32 × Mi × Ml) :=
  ((F_X6_isSign M L (45 : Int32)).bind fun v5 =>
  (if v5 = 0 then ((F_X6_isSign M L (40 : Int32)).bind fun v40 =>
   (if v40 = 0 then (if (M 0 26) = 0 then (if (M 0 22) = (2 : Int32) then ((F_X6_next M L).bind fun r117 =>
      (some ((Int64.toInt32 (L 0 24)), r117.1, r117.2))) else
    (F_X6_atom1_k123 M L ((0 : Int32)))) else
   (F_X6_atom1_k123 M L ((0 : Int32)))) else
  ((F_X6_opens M L).bind fun r47 =>
    (if r47.1 = 0 then (some ((0 : Int32), r47.2.1, r47.2.2)) else
   ((F_X6_either2 r47.2.1 r47.2.2).bind fun r54 =>
     ((F_X6_isSign r54.2.1 r54.2.2 (41 : Int32)).bind fun v61 =>
     (if v61 = 0 then ((F_X6_fail r54.2.1 r54.2.2).bind fun r68 =>
      (F_X6_atom1_k71 r68.1 r68.2 r54.1)) else
    (F_X6_atom1_k71 r54.2.1 r54.2.2 r54.1)))))))) else
 ((F_X6_opens M L).bind fun r12 =>
   (if r12.1 = 0 then (some ((0 : Int32), r12.2.1, r12.2.2)) else
  ((F_X6_atom2 r12.2.1 r12.2.2).bind fun r19 =>
    (some ((-r19.1), (up2 r19.2.1 0 25 ((r19.2.1 0 25) - (1 : Int32))), r19.2.2)))))))
def F_X6_term1_k5 : Nat → Mi → Ml → Int32 → Option (Int32 × Mi × Ml)
  | 0, _, _, _ => none
  | n + 1, M, L, x1 =>
  ((F_X6_isSign M L (42 : Int32)).bind fun v8 =>
  (if v8 = 0 then (some (x1, M, L)) else
 ((F_X6_next M L).bind fun r15 =>
   ((F_X6_atom1 r15.1 r15.2).bind fun r20 =>
   (F_X6_term1_k5 n r20.2.1 r20.2.2 ((x1 * r20.1)))))))
def F_X6_term1 (M : Mi) (L : Ml) : Option (Int32 × Mi × Ml) :=
  ((F_X6_atom1 M L).bind fun r1 =>
  (F_X6_term1_k5 FU r1.2.1 r1.2.2 r1.1))
def F_X6_added1_k62 (kf5 : Mi → Ml → Int32 → Option (Int32 × Mi × Ml)) (M : Mi) (L : Ml) (s0 : Int32) : Option (Int32 × Mi × Ml) :=
  (kf5 M L s0)
def F_X6_added1_k39 (kf5 : Mi → Ml → Int32 → Option (Int32 × Mi × Ml)) (M : Mi) (L : Ml) (x1 : Int32) (s0 : Int32) : Option (Int32 × Mi × Ml) :=
  ((F_X6_next M L).bind fun r41 =>
  ((F_X6_term1 r41.1 r41.2).bind fun r45 =>
  (if s0 = 0 then (F_X6_added1_k62 kf5 r45.2.1 r45.2.2 ((x1 - r45.1))) else
 (F_X6_added1_k62 kf5 r45.2.1 r45.2.2 ((x1 + r45.1))))))
def F_X6_added1_k23 (kf5 : Mi → Ml → Int32 → Option (Int32 × Mi × Ml)) (M : Mi) (L : Ml) (x1 : Int32) : Option (Int32 × Mi × Ml) :=
  (if (lg_cmp (L 0 24) (43 : Int64)) = 0 then (F_X6_added1_k39 kf5 M L x1 ((1 : Int32))) else
 (F_X6_added1_k39 kf5 M L x1 ((0 : Int32))))
def F_X6_added1_k5 : Nat → Mi → Ml → Int32 → Option (Int32 × Mi × Ml)
  | 0, _, _, _ => none
  | n + 1, M, L, x1 =>
  ((F_X6_isSign M L (43 : Int32)).bind fun v8 =>
  (if v8 = 0 then ((F_X6_isSign M L (45 : Int32)).bind fun v17 =>
   (if v17 = 0 then (some (x1, M, L)) else
  (F_X6_added1_k23 (F_X6_added1_k5 n) M L x1))) else
 (F_X6_added1_k23 (F_X6_added1_k5 n) M L x1)))
def F_X6_added1 (M : Mi) (L : Ml) : Option (Int32 × Mi × Ml) :=
  ((F_X6_term1 M L).bind fun r1 =>
  (F_X6_added1_k5 FU r1.2.1 r1.2.2 r1.1))
def F_X6_not1_k120 (M : Mi) (L : Ml) : Option (Int32 × Mi × Ml) :=
  (some ((1 : Int32), M, L))
def F_X6_not1_k93 (M : Mi) (L : Ml) (x1 : Int32) (s0 : Int32) : Option (Int32 × Mi × Ml) :=
  ((F_X6_next M L).bind fun r95 =>
  ((F_X6_added1 r95.1 r95.2).bind fun r99 =>
  (if s0 = 0 then (if x1 = r99.1 then (F_X6_not1_k120 r99.2.1 r99.2.2) else
  (some ((0 : Int32), r99.2.1, r99.2.2))) else
 (if r99.1 ≤ x1 then (some ((0 : Int32), r99.2.1, r99.2.2)) else
  (F_X6_not1_k120 r99.2.1 r99.2.2)))))
def F_X6_not1_k77 (M : Mi) (L : Ml) (x1 : Int32) : Option (Int32 × Mi × Ml) :=
  (if (lg_cmp (L 0 24) (60 : Int64)) = 0 then (F_X6_not1_k93 M L x1 ((1 : Int32))) else
 (F_X6_not1_k93 M L x1 ((0 : Int32))))
def F_X6_not1 (M : Mi) (L : Ml) : Option (Int32 × Mi × Ml) :=
  ((F_X6_isWord M L (110 : Int32) (111 : Int32) (116 : Int32) (0 : Int32) (0 : Int32) (0 : Int32) (0 : Int32) (0 : Int32)).bind fun v12 =>
  (if v12 = 0 then ((F_X6_added1 M L).bind fun r53 =>
   ((F_X6_isSign r53.2.1 r53.2.2 (60 : Int32)).bind fun v60 =>
   (if v60 = 0 then ((F_X6_isSign r53.2.1 r53.2.2 (61 : Int32)).bind fun v69 =>
    (if v69 = 0 then (some (r53.1, r53.2.1, r53.2.2)) else
   (F_X6_not1_k77 r53.2.1 r53.2.2 r53.1))) else
  (F_X6_not1_k77 r53.2.1 r53.2.2 r53.1)))) else
 ((F_X6_opens M L).bind fun r19 =>
   (if r19.1 = 0 then (some ((0 : Int32), r19.2.1, r19.2.2)) else
  ((F_X6_not2 r19.2.1 r19.2.2).bind fun r28 =>
    (if r28.1 = 0 then (some ((1 : Int32), (up2 r28.2.1 0 25 ((r28.2.1 0 25) - (1 : Int32))), r28.2.2)) else
   (some ((0 : Int32), (up2 r28.2.1 0 25 ((r28.2.1 0 25) - (1 : Int32))), r28.2.2))))))))
def F_X6_both1_k45 (kf5 : Mi → Ml → Int32 → Option (Int32 × Mi × Ml)) (M : Mi) (L : Ml) (s0 : Int32) : Option (Int32 × Mi × Ml) :=
  (kf5 M L s0)
def F_X6_both1_k44 (kf5 : Mi → Ml → Int32 → Option (Int32 × Mi × Ml)) (M : Mi) (L : Ml) : Option (Int32 × Mi × Ml) :=
  (F_X6_both1_k45 kf5 M L ((0 : Int32)))
def F_X6_both1_k5 : Nat → Mi → Ml → Int32 → Option (Int32 × Mi × Ml)
  | 0, _, _, _ => none
  | n + 1, M, L, x1 =>
  ((F_X6_isWord M L (97 : Int32) (110 : Int32) (100 : Int32) (0 : Int32) (0 : Int32) (0 : Int32) (0 : Int32) (0 : Int32)).bind fun v17 =>
  (if v17 = 0 then (some (x1, M, L)) else
 ((F_X6_next M L).bind fun r24 =>
   ((F_X6_not1 r24.1 r24.2).bind fun r28 =>
   (if x1 = 0 then (F_X6_both1_k44 (F_X6_both1_k5 n) r28.2.1 r28.2.2) else
  (if r28.1 = 0 then (F_X6_both1_k44 (F_X6_both1_k5 n) r28.2.1 r28.2.2) else
   (F_X6_both1_k45 (F_X6_both1_k5 n) r28.2.1 r28.2.2 ((1 : Int32)))))))))
def F_X6_both1 (M : Mi) (L : Ml) : Option (Int32 × Mi × Ml) :=
  ((F_X6_not1 M L).bind fun r1 =>
  (F_X6_both1_k5 FU r1.2.1 r1.2.2 r1.1))
def F_X6_either1_k44 (kf5 : Mi → Ml → Int32 → Option (Int32 × Mi × Ml)) (M : Mi) (L : Ml) (s0 : Int32) : Option (Int32 × Mi × Ml) :=
  (kf5 M L s0)
def F_X6_either1_k39 (kf5 : Mi → Ml → Int32 → Option (Int32 × Mi × Ml)) (M : Mi) (L : Ml) : Option (Int32 × Mi × Ml) :=
  (F_X6_either1_k44 kf5 M L ((1 : Int32)))
def F_X6_either1_k5 : Nat → Mi → Ml → Int32 → Option (Int32 × Mi × Ml)
  | 0, _, _, _ => none
  | n + 1, M, L, x1 =>
  ((F_X6_isWord M L (111 : Int32) (114 : Int32) (0 : Int32) (0 : Int32) (0 : Int32) (0 : Int32) (0 : Int32) (0 : Int32)).bind fun v16 =>
  (if v16 = 0 then (some (x1, M, L)) else
 ((F_X6_next M L).bind fun r23 =>
   ((F_X6_both1 r23.1 r23.2).bind fun r27 =>
   (if x1 = 0 then (if r27.1 = 0 then (F_X6_either1_k44 (F_X6_either1_k5 n) r27.2.1 r27.2.2 ((0 : Int32))) else
   (F_X6_either1_k39 (F_X6_either1_k5 n) r27.2.1 r27.2.2)) else
  (F_X6_either1_k39 (F_X6_either1_k5 n) r27.2.1 r27.2.2))))))
def F_X6_either1 (M : Mi) (L : Ml) : Option (Int32 × Mi × Ml) :=
  ((F_X6_both1 M L).bind fun r1 =>
  (F_X6_either1_k5 FU r1.2.1 r1.2.2 r1.1))
def F_X6_atom0_k157 (M : Mi) (L : Ml) (x1 : Int32) : Option (Int32 × Mi × Ml) :=
  ((F_X6_fail M L).bind fun r158 =>
  (some (x1, r158.1, r158.2)))
def F_X6_atom0_k123 (M : Mi) (L : Ml) (x1 : Int32) : Option (Int32 × Mi × Ml) :=
  (if (M 0 26) = 0 then (if (M 0 22) = (1 : Int32) then ((F_X6_name M L).bind fun r139 =>
    (if (r139.2.1 0 26) = 0 then ((F_X6_next r139.2.1 r139.2.2).bind fun r151 =>
     (some (r139.1, r151.1, r151.2))) else
   (some (r139.1, r139.2.1, r139.2.2)))) else
  (F_X6_atom0_k157 M L x1)) else
 (F_X6_atom0_k157 M L x1))
def F_X6_atom0_k71 (M : Mi) (L : Ml) (x1 : Int32) : Option (Int32 × Mi × Ml) :=
  (if ((up2 M 0 25 ((M 0 25) - (1 : Int32))) 0 26) = 0 then ((F_X6_next (up2 M 0 25 ((M 0 25) - (1 : Int32))) L).bind fun r89 =>
   (some (x1, r89.1, r89.2))) else
 (some (x1, (up2 M 0 25 ((M 0 25) - (1 : Int32))), L)))
def F_X6_atom0 (M : Mi) (L : Ml) : Option (Int32 × Mi × Ml) :=
  ((F_X6_isSign M L (45 : Int32)).bind fun v5 =>
  (if v5 = 0 then ((F_X6_isSign M L (40 : Int32)).bind fun v40 =>
   (if v40 = 0 then (if (M 0 26) = 0 then (if (M 0 22) = (2 : Int32) then ((F_X6_next M L).bind fun r117 =>
      (some ((Int64.toInt32 (L 0 24)), r117.1, r117.2))) else
    (F_X6_atom0_k123 M L ((0 : Int32)))) else
   (F_X6_atom0_k123 M L ((0 : Int32)))) else
  ((F_X6_opens M L).bind fun r47 =>
    (if r47.1 = 0 then (some ((0 : Int32), r47.2.1, r47.2.2)) else
   ((F_X6_either1 r47.2.1 r47.2.2).bind fun r54 =>
     ((F_X6_isSign r54.2.1 r54.2.2 (41 : Int32)).bind fun v61 =>
     (if v61 = 0 then ((F_X6_fail r54.2.1 r54.2.2).bind fun r68 =>
      (F_X6_atom0_k71 r68.1 r68.2 r54.1)) else
    (F_X6_atom0_k71 r54.2.1 r54.2.2 r54.1)))))))) else
 ((F_X6_opens M L).bind fun r12 =>
   (if r12.1 = 0 then (some ((0 : Int32), r12.2.1, r12.2.2)) else
  ((F_X6_atom1 r12.2.1 r12.2.2).bind fun r19 =>
    (some ((-r19.1), (up2 r19.2.1 0 25 ((r19.2.1 0 25) - (1 : Int32))), r19.2.2)))))))
def F_X6_term0_k5 : Nat → Mi → Ml → Int32 → Option (Int32 × Mi × Ml)
  | 0, _, _, _ => none
  | n + 1, M, L, x1 =>
  ((F_X6_isSign M L (42 : Int32)).bind fun v8 =>
  (if v8 = 0 then (some (x1, M, L)) else
 ((F_X6_next M L).bind fun r15 =>
   ((F_X6_atom0 r15.1 r15.2).bind fun r20 =>
   (F_X6_term0_k5 n r20.2.1 r20.2.2 ((x1 * r20.1)))))))
def F_X6_term0 (M : Mi) (L : Ml) : Option (Int32 × Mi × Ml) :=
  ((F_X6_atom0 M L).bind fun r1 =>
  (F_X6_term0_k5 FU r1.2.1 r1.2.2 r1.1))
def F_X6_added0_k62 (kf5 : Mi → Ml → Int32 → Option (Int32 × Mi × Ml)) (M : Mi) (L : Ml) (s0 : Int32) : Option (Int32 × Mi × Ml) :=
  (kf5 M L s0)
def F_X6_added0_k39 (kf5 : Mi → Ml → Int32 → Option (Int32 × Mi × Ml)) (M : Mi) (L : Ml) (x1 : Int32) (s0 : Int32) : Option (Int32 × Mi × Ml) :=
  ((F_X6_next M L).bind fun r41 =>
  ((F_X6_term0 r41.1 r41.2).bind fun r45 =>
  (if s0 = 0 then (F_X6_added0_k62 kf5 r45.2.1 r45.2.2 ((x1 - r45.1))) else
 (F_X6_added0_k62 kf5 r45.2.1 r45.2.2 ((x1 + r45.1))))))
def F_X6_added0_k23 (kf5 : Mi → Ml → Int32 → Option (Int32 × Mi × Ml)) (M : Mi) (L : Ml) (x1 : Int32) : Option (Int32 × Mi × Ml) :=
  (if (lg_cmp (L 0 24) (43 : Int64)) = 0 then (F_X6_added0_k39 kf5 M L x1 ((1 : Int32))) else
 (F_X6_added0_k39 kf5 M L x1 ((0 : Int32))))
def F_X6_added0_k5 : Nat → Mi → Ml → Int32 → Option (Int32 × Mi × Ml)
  | 0, _, _, _ => none
  | n + 1, M, L, x1 =>
  ((F_X6_isSign M L (43 : Int32)).bind fun v8 =>
  (if v8 = 0 then ((F_X6_isSign M L (45 : Int32)).bind fun v17 =>
   (if v17 = 0 then (some (x1, M, L)) else
  (F_X6_added0_k23 (F_X6_added0_k5 n) M L x1))) else
 (F_X6_added0_k23 (F_X6_added0_k5 n) M L x1)))
def F_X6_added0 (M : Mi) (L : Ml) : Option (Int32 × Mi × Ml) :=
  ((F_X6_term0 M L).bind fun r1 =>
  (F_X6_added0_k5 FU r1.2.1 r1.2.2 r1.1))
def F_X6_not0_k120 (M : Mi) (L : Ml) : Option (Int32 × Mi × Ml) :=
  (some ((1 : Int32), M, L))
def F_X6_not0_k93 (M : Mi) (L : Ml) (x1 : Int32) (s0 : Int32) : Option (Int32 × Mi × Ml) :=
  ((F_X6_next M L).bind fun r95 =>
  ((F_X6_added0 r95.1 r95.2).bind fun r99 =>
  (if s0 = 0 then (if x1 = r99.1 then (F_X6_not0_k120 r99.2.1 r99.2.2) else
  (some ((0 : Int32), r99.2.1, r99.2.2))) else
 (if r99.1 ≤ x1 then (some ((0 : Int32), r99.2.1, r99.2.2)) else
  (F_X6_not0_k120 r99.2.1 r99.2.2)))))
def F_X6_not0_k77 (M : Mi) (L : Ml) (x1 : Int32) : Option (Int32 × Mi × Ml) :=
  (if (lg_cmp (L 0 24) (60 : Int64)) = 0 then (F_X6_not0_k93 M L x1 ((1 : Int32))) else
 (F_X6_not0_k93 M L x1 ((0 : Int32))))
def F_X6_not0 (M : Mi) (L : Ml) : Option (Int32 × Mi × Ml) :=
  ((F_X6_isWord M L (110 : Int32) (111 : Int32) (116 : Int32) (0 : Int32) (0 : Int32) (0 : Int32) (0 : Int32) (0 : Int32)).bind fun v12 =>
  (if v12 = 0 then ((F_X6_added0 M L).bind fun r53 =>
   ((F_X6_isSign r53.2.1 r53.2.2 (60 : Int32)).bind fun v60 =>
   (if v60 = 0 then ((F_X6_isSign r53.2.1 r53.2.2 (61 : Int32)).bind fun v69 =>
    (if v69 = 0 then (some (r53.1, r53.2.1, r53.2.2)) else
   (F_X6_not0_k77 r53.2.1 r53.2.2 r53.1))) else
  (F_X6_not0_k77 r53.2.1 r53.2.2 r53.1)))) else
 ((F_X6_opens M L).bind fun r19 =>
   (if r19.1 = 0 then (some ((0 : Int32), r19.2.1, r19.2.2)) else
  ((F_X6_not1 r19.2.1 r19.2.2).bind fun r28 =>
    (if r28.1 = 0 then (some ((1 : Int32), (up2 r28.2.1 0 25 ((r28.2.1 0 25) - (1 : Int32))), r28.2.2)) else
   (some ((0 : Int32), (up2 r28.2.1 0 25 ((r28.2.1 0 25) - (1 : Int32))), r28.2.2))))))))
def F_X6_both0_k45 (kf5 : Mi → Ml → Int32 → Option (Int32 × Mi × Ml)) (M : Mi) (L : Ml) (s0 : Int32) : Option (Int32 × Mi × Ml) :=
  (kf5 M L s0)
def F_X6_both0_k44 (kf5 : Mi → Ml → Int32 → Option (Int32 × Mi × Ml)) (M : Mi) (L : Ml) : Option (Int32 × Mi × Ml) :=
  (F_X6_both0_k45 kf5 M L ((0 : Int32)))
def F_X6_both0_k5 : Nat → Mi → Ml → Int32 → Option (Int32 × Mi × Ml)
  | 0, _, _, _ => none
  | n + 1, M, L, x1 =>
  ((F_X6_isWord M L (97 : Int32) (110 : Int32) (100 : Int32) (0 : Int32) (0 : Int32) (0 : Int32) (0 : Int32) (0 : Int32)).bind fun v17 =>
  (if v17 = 0 then (some (x1, M, L)) else
 ((F_X6_next M L).bind fun r24 =>
   ((F_X6_not0 r24.1 r24.2).bind fun r28 =>
   (if x1 = 0 then (F_X6_both0_k44 (F_X6_both0_k5 n) r28.2.1 r28.2.2) else
  (if r28.1 = 0 then (F_X6_both0_k44 (F_X6_both0_k5 n) r28.2.1 r28.2.2) else
   (F_X6_both0_k45 (F_X6_both0_k5 n) r28.2.1 r28.2.2 ((1 : Int32)))))))))
def F_X6_both0 (M : Mi) (L : Ml) : Option (Int32 × Mi × Ml) :=
  ((F_X6_not0 M L).bind fun r1 =>
  (F_X6_both0_k5 FU r1.2.1 r1.2.2 r1.1))
def F_X6_either0_k44 (kf5 : Mi → Ml → Int32 → Option (Int32 × Mi × Ml)) (M : Mi) (L : Ml) (s0 : Int32) : Option (Int32 × Mi × Ml) :=
  (kf5 M L s0)
def F_X6_either0_k39 (kf5 : Mi → Ml → Int32 → Option (Int32 × Mi × Ml)) (M : Mi) (L : Ml) : Option (Int32 × Mi × Ml) :=
  (F_X6_either0_k44 kf5 M L ((1 : Int32)))
def F_X6_either0_k5 : Nat → Mi → Ml → Int32 → Option (Int32 × Mi × Ml)
  | 0, _, _, _ => none
  | n + 1, M, L, x1 =>
  ((F_X6_isWord M L (111 : Int32) (114 : Int32) (0 : Int32) (0 : Int32) (0 : Int32) (0 : Int32) (0 : Int32) (0 : Int32)).bind fun v16 =>
  (if v16 = 0 then (some (x1, M, L)) else
 ((F_X6_next M L).bind fun r23 =>
   ((F_X6_both0 r23.1 r23.2).bind fun r27 =>
   (if x1 = 0 then (if r27.1 = 0 then (F_X6_either0_k44 (F_X6_either0_k5 n) r27.2.1 r27.2.2 ((0 : Int32))) else
   (F_X6_either0_k39 (F_X6_either0_k5 n) r27.2.1 r27.2.2)) else
  (F_X6_either0_k39 (F_X6_either0_k5 n) r27.2.1 r27.2.2))))))
def F_X6_either0 (M : Mi) (L : Ml) : Option (Int32 × Mi × Ml) :=
  ((F_X6_both0 M L).bind fun r1 =>
  (F_X6_either0_k5 FU r1.2.1 r1.2.2 r1.1))
def F_X6_part_k48 (M : Mi) (L : Ml) (x2 : Int32) : Option (Int32 × Mi × Ml) :=
  (if (M 0 26) = 0 then ((F_X6_next M L).bind fun r56 =>
   (some (x2, r56.1, r56.2))) else
 (some (x2, M, L)))
def F_X6_part_k34 (M : Mi) (L : Ml) (s0 : Int32) : Option (Int32 × Mi × Ml) :=
  ((F_X6_isSign M L (59 : Int32)).bind fun v38 =>
  (if v38 = 0 then ((F_X6_fail M L).bind fun r45 =>
   (F_X6_part_k48 r45.1 r45.2 s0)) else
 (F_X6_part_k48 M L s0)))
def F_X6_part_k19 (M : Mi) (L : Ml) : Option (Int32 × Mi × Ml) :=
  (if (M 0 26) = 0 then ((F_X6_either0 M L).bind fun r31 =>
   (F_X6_part_k34 r31.2.1 r31.2.2 r31.1)) else
 (F_X6_part_k34 M L ((0 : Int32))))
def F_X6_part_k8 (M : Mi) (L : Ml) : Option (Int32 × Mi × Ml) :=
  (if (M 0 26) = 0 then ((F_X6_next M L).bind fun r16 =>
   (F_X6_part_k19 r16.1 r16.2)) else
 (F_X6_part_k19 M L))
def F_X6_part (M : Mi) (L : Ml) (x1 : Int32) : Option (Int32 × Mi × Ml) :=
  (if x1 = 0 then ((F_X6_fail M L).bind fun r5 =>
   (F_X6_part_k8 r5.1 r5.2)) else
 (F_X6_part_k8 M L))
def F_X6_read_k146 (M : Mi) (L : Ml) (x2 : Int32) (x3 : Int32) (x4 : Int32) (x5 : Int32) : Option (Int32 × Mi × Ml) :=
  (if x2 = 0 then (some (x3, M, L)) else
 (if x2 = (1 : Int32) then (some (x4, M, L)) else
  (some (x5, M, L))))
def F_X6_read_k126 (M : Mi) (L : Ml) (x2 : Int32) (x3 : Int32) (x4 : Int32) (s0 : Int32) : Option (Int32 × Mi × Ml) :=
  (if (M 0 26) = 0 then (if (M 0 22) = 0 then (F_X6_read_k146 M L x2 x3 x4 s0) else
  ((F_X6_fail M L).bind fun r143 =>
    (F_X6_read_k146 r143.1 r143.2 x2 x3 x4 s0))) else
 (F_X6_read_k146 M L x2 x3 x4 s0))
def F_X6_read_k92 (M : Mi) (L : Ml) (x2 : Int32) (x3 : Int32) (s0 : Int32) : Option (Int32 × Mi × Ml) :=
  (if (M 0 26) = 0 then ((F_X6_isWord M L (114 : Int32) (101 : Int32) (115 : Int32) (116 : Int32) (115 : Int32) (0 : Int32) (0 : Int32) (0 : Int32)).bind fun v120 =>
   ((F_X6_part M L v120).bind fun r123 =>
   (F_X6_read_k126 r123.2.1 r123.2.2 x2 x3 s0 r123.1))) else
 (F_X6_read_k126 M L x2 x3 s0 ((0 : Int32))))
def F_X6_read (M : Mi) (L : Ml) (x1 : Int32) (x2 : Int32) : Option (Int32 × Mi × Ml) :=
  (if ix x1 6 = true then
  ((F_X6_next (up2 (up2 (up2 (up2 (up2 M 0 19 ((160 : Int32) * x1)) 0 20 ((up2 M 0 19 ((160 : Int32) * x1)) 2 (Int32.toNatClampNeg x1))) 0 21 (0 : Int32)) 0 25 (0 : Int32)) 0 26 (0 : Int32)) L).bind fun r35 =>
  ((F_X6_isWord r35.1 r35.2 (116 : Int32) (117 : Int32) (114 : Int32) (110 : Int32) (115 : Int32) (0 : Int32) (0 : Int32) (0 : Int32)).bind fun v53 =>
  ((F_X6_part r35.1 r35.2 v53).bind fun r56 =>
  (if (r56.2.1 0 26) = 0 then ((F_X6_isWord r56.2.1 r56.2.2 (116 : Int32) (105 : Int32) (114 : Int32) (101 : Int32) (115 : Int32) (0 : Int32) (0 : Int32) (0 : Int32)).bind fun v86 =>
   ((F_X6_part r56.2.1 r56.2.2 v86).bind fun r89 =>
   (F_X6_read_k92 r89.2.1 r89.2.2 x2 r56.1 r89.1))) else
 (F_X6_read_k92 r56.2.1 r56.2.2 x2 r56.1 ((0 : Int32))))))) else none)
def F_X6_says_k88 (M : Mi) (L : Ml) (s0 : Int32) (s1 : Int32) : Option (Int32 × Mi × Ml) :=
  ((F_X6_within s0 s1 (99 : Int32)).bind fun v90 =>
  (some (v90, M, L)))
def F_X6_says (M : Mi) (L : Ml) (x1 : Int32) (x2 : Int32) : Option (Int32 × Mi × Ml) :=
  (if ix (((4 : Int32) * x2) + (2 : Int32)) 20 = true then
  ((F_X6_onOf (up2 M 0 13 (M 4 (Int32.toNatClampNeg (((4 : Int32) * x2) + (2 : Int32))))) L x2).bind fun v17 =>
  ((F_X6_onOf (up2 (up2 M 0 13 (M 4 (Int32.toNatClampNeg (((4 : Int32) * x2) + (2 : Int32))))) 0 14 (irm v17 (8 : Int32))) L x2).bind fun v29 =>
  (if ix ((4 : Int32) * x2) 20 = true then
  ((F_X6_bitsOf (L 0 9)).bind fun v63 =>
  ((F_X6_read (up2 (up2 (up2 (up2 (up2 (up2 M 0 13 (M 4 (Int32.toNatClampNeg (((4 : Int32) * x2) + (2 : Int32))))) 0 14 (irm v17 (8 : Int32))) 0 15 (v29 / (8 : Int32))) 0 16 ((up2 (up2 (up2 M 0 13 (M 4 (Int32.toNatClampNeg (((4 : Int32) * x2) + (2 : Int32))))) 0 14 (irm v17 (8 : Int32))) 0 15 (v29 / (8 : Int32))) 4 (Int32.toNatClampNeg ((4 : Int32) * x2)))) 0 17 ((up2 (up2 (up2 (up2 M 0 13 (M 4 (Int32.toNatClampNeg (((4 : Int32) * x2) + (2 : Int32))))) 0 14 (irm v17 (8 : Int32))) 0 15 (v29 / (8 : Int32))) 0 16 ((up2 (up2 (up2 M 0 13 (M 4 (Int32.toNatClampNeg (((4 : Int32) * x2) + (2 : Int32))))) 0 14 (irm v17 (8 : Int32))) 0 15 (v29 / (8 : Int32))) 4 (Int32.toNatClampNeg ((4 : Int32) * x2)))) 0 7)) 0 18 v63) L ((up2 (up2 (up2 (up2 (up2 (up2 M 0 13 (M 4 (Int32.toNatClampNeg (((4 : Int32) * x2) + (2 : Int32))))) 0 14 (irm v17 (8 : Int32))) 0 15 (v29 / (8 : Int32))) 0 16 ((up2 (up2 (up2 M 0 13 (M 4 (Int32.toNatClampNeg (((4 : Int32) * x2) + (2 : Int32))))) 0 14 (irm v17 (8 : Int32))) 0 15 (v29 / (8 : Int32))) 4 (Int32.toNatClampNeg ((4 : Int32) * x2)))) 0 17 ((up2 (up2 (up2 (up2 M 0 13 (M 4 (Int32.toNatClampNeg (((4 : Int32) * x2) + (2 : Int32))))) 0 14 (irm v17 (8 : Int32))) 0 15 (v29 / (8 : Int32))) 0 16 ((up2 (up2 (up2 M 0 13 (M 4 (Int32.toNatClampNeg (((4 : Int32) * x2) + (2 : Int32))))) 0 14 (irm v17 (8 : Int32))) 0 15 (v29 / (8 : Int32))) 4 (Int32.toNatClampNeg ((4 : Int32) * x2)))) 0 7)) 0 18 v63) 0 4) x1).bind fun r75 =>
  (if x1 = 0 then (F_X6_says_k88 r75.2.1 r75.2.2 r75.1 ((-99 : Int32))) else
 (F_X6_says_k88 r75.2.1 r75.2.2 r75.1 ((0 : Int32)))))) else none))) else none)
def F_X6_restsOf_k21 (M : Mi) (L : Ml) (x1 : Int32) (x2 : Int32) : Option (Int32 × Mi × Ml) :=
  (if x2 = (4 : Int32) then (if ix ((4 : Int32) * x1) 20 = true then
   (some ((M 4 (Int32.toNatClampNeg ((4 : Int32) * x1))), M, L)) else none) else
 (some ((0 : Int32), M, L)))
def F_X6_restsOf_k69 (M : Mi) (L : Ml) (s0 : Int32) : Option (Int32 × Mi × Ml) :=
  ((F_X6_within s0 (0 : Int32) (99 : Int32)).bind fun v72 =>
  (some (v72, M, L)))
def F_X6_restsOf (M : Mi) (L : Ml) (x1 : Int32) : Option (Int32 × Mi × Ml) :=
  (if ix (((4 : Int32) * x1) + (3 : Int32)) 20 = true then
  ((some (M 4 (Int32.toNatClampNeg (((4 : Int32) * x1) + (3 : Int32))))).bind fun z10 =>
  (if z10 = (2 : Int32) then (F_X6_restsOf_k21 M L x1 z10) else
 (if z10 = (4 : Int32) then (F_X6_restsOf_k21 M L x1 z10) else
  ((F_X6_says M L (2 : Int32) x1).bind fun r42 =>
    (if z10 = (3 : Int32) then (F_X6_restsOf_k69 r42.2.1 r42.2.2 ((r42.1 / (2 : Int32)))) else
   (if z10 = (5 : Int32) then (F_X6_restsOf_k69 r42.2.1 r42.2.2 (((2 : Int32) * r42.1))) else
    (F_X6_restsOf_k69 r42.2.1 r42.2.2 r42.1))))))) else none)
def F_X6_tiresOf_k86 (M : Mi) (L : Ml) (s0 : Int32) : Option (Int32 × Mi × Ml) :=
  ((F_X6_within s0 (0 : Int32) (99 : Int32)).bind fun v89 =>
  (some (v89, M, L)))
def F_X6_tiresOf (M : Mi) (L : Ml) (x1 : Int32) : Option (Int32 × Mi × Ml) :=
  (if ix (((4 : Int32) * x1) + (3 : Int32)) 20 = true then
  ((some (M 4 (Int32.toNatClampNeg (((4 : Int32) * x1) + (3 : Int32))))).bind fun z10 =>
  ((F_X6_says M L (1 : Int32) x1).bind fun r14 =>
  (if z10 = (1 : Int32) then (F_X6_tiresOf_k86 r14.2.1 r14.2.2 ((r14.1 / (2 : Int32)))) else
 (if z10 = (2 : Int32) then (F_X6_tiresOf_k86 r14.2.1 r14.2.2 ((r14.1 + (1 : Int32)))) else
  (if z10 = (3 : Int32) then (if ix ((4 : Int32) * x1) 20 = true then
     (F_X6_tiresOf_k86 r14.2.1 r14.2.2 (((r14.1 / (2 : Int32)) + (r14.2.1 4 (Int32.toNatClampNeg ((4 : Int32) * x1)))))) else none) else
   (if z10 = (4 : Int32) then (F_X6_tiresOf_k86 r14.2.1 r14.2.2 (((2 : Int32) * (r14.1 + (1 : Int32))))) else
    (if z10 = (5 : Int32) then (F_X6_tiresOf_k86 r14.2.1 r14.2.2 ((r14.1 + (10 : Int32)))) else
     (F_X6_tiresOf_k86 r14.2.1 r14.2.2 r14.1)))))))) else none)
def F_X6_turnOf (M : Mi) (L : Ml) (x1 : Int32) : Option (Int32 × Mi × Ml) :=
  ((F_X6_says M L (0 : Int32) x1).bind fun r3 =>
  (if 0 ≤ (irm r3.1 (8 : Int32)) then (some ((irm r3.1 (8 : Int32)), r3.2.1, r3.2.2)) else
 (some (((irm r3.1 (8 : Int32)) + (8 : Int32)), r3.2.1, r3.2.2))))
def F_X6_whoOn_k27 (M : Mi) (L : Ml) (kf4 : Int32 → Int32 → Int32 → Option (Int32)) (x1 : Int32) (x3 : Int32) (s0 : Int32) (s1 : Int32) : Option (Int32) :=
  (kf4 x1 ((s0 ||| (ishl s1 x3))) ((x3 + (1 : Int32))))
def F_X6_whoOn_k4 (M : Mi) (L : Ml) : Nat → Int32 → Int32 → Int32 → Option (Int32)
  | 0, _, _, _ => none
  | n + 1, x1, x2, x3 =>
  (if (M 0 11) ≤ x3 then (some x2) else
 ((F_X6_onOf M L x3).bind fun v15 =>
   (if v15 = x1 then (F_X6_whoOn_k27 M L (F_X6_whoOn_k4 M L n) x1 x3 x2 ((1 : Int32))) else
  (F_X6_whoOn_k27 M L (F_X6_whoOn_k4 M L n) x1 x3 x2 ((0 : Int32))))))
def F_X6_whoOn (M : Mi) (L : Ml) (x1 : Int32) : Option (Int32) :=
  (F_X6_whoOn_k4 M L FU x1 ((0 : Int32)) ((0 : Int32)))
def F_X6_told_k57 (M : Mi) (L : Ml) (x1 : Int32) (s0 : Int64) : Option (Int32 × Mi × Ml) :=
  ((F_X6_has s0 x1).bind fun v58 =>
  (if v58 = 0 then (some ((0 : Int32), M, L)) else
 (some ((1 : Int32), M, L))))
def F_X6_told (M : Mi) (L : Ml) (x1 : Int32) (x2 : Int32) : Option (Int32 × Mi × Ml) :=
  ((F_X6_in (Int32.toInt64 x2) (0 : Int64) (11 : Int64)).bind fun v6 =>
  (if v6 = 0 then (some ((-1000 : Int32), M, L)) else
 ((F_X6_isOf M L x2 x1).bind fun v15 =>
   (if v15 = 0 then (some ((-1000 : Int32), M, L)) else
  (if (3 : Int32) ≤ x2 then (if (7 : Int32) ≤ x2 then (if x2 = (7 : Int32) then ((F_X6_turnOf M L x1).bind fun r97 =>
       (some (r97.1, r97.2.1, r97.2.2))) else
     (if x2 = (8 : Int32) then ((F_X6_tiresOf M L x1).bind fun r111 =>
        (some (r111.1, r111.2.1, r111.2.2))) else
      (if x2 = (9 : Int32) then ((F_X6_restsOf M L x1).bind fun r125 =>
         (some (r125.1, r125.2.1, r125.2.2))) else
       (if x2 = (10 : Int32) then ((F_X6_foundOf M L x1).bind fun v139 =>
          (some (v139, M, L))) else
        ((F_X6_whoOn M L x1).bind fun v147 =>
          (some (v147, M, L))))))) else
    (if ix ((((4 : Int32) * x1) + x2) - (3 : Int32)) 20 = true then
      (some ((M 4 (Int32.toNatClampNeg ((((4 : Int32) * x1) + x2) - (3 : Int32)))), M, L)) else none)) else
   (if x2 = 0 then (some ((M 0 7), M, L)) else
    (if x2 = (1 : Int32) then (F_X6_told_k57 M L x1 ((L 0 8))) else
     (F_X6_told_k57 M L x1 ((L 0 9))))))))))
def F_X6_set_k70 (M : Mi) (L : Ml) (x1 : Int32) (x2 : Int32) (x3 : Int32) : Option (Int32 × Mi × Ml) :=
  ((F_X6_told M L x2 x1).bind fun r73 =>
  ((F_X6_lays r73.2.1 r73.2.2 x1 x2 x3).bind fun r82 =>
  (some (r73.1, r82.1, r82.2))))
def F_X6_set_k51 (M : Mi) (L : Ml) (x1 : Int32) (x2 : Int32) (x3 : Int32) : Option (Int32 × Mi × Ml) :=
  (if x1 = (4 : Int32) then ((F_X6_has (L 0 9) x3).bind fun v61 =>
   (if v61 = 0 then (F_X6_set_k70 M L x1 x2 x3) else
  (some ((-2 : Int32), M, L)))) else
 (F_X6_set_k70 M L x1 x2 x3))
def F_X6_set (M : Mi) (L : Ml) (x1 : Int32) (x2 : Int32) (x3 : Int32) : Option (Int32 × Mi × Ml) :=
  ((F_X6_in (Int32.toInt64 x1) (0 : Int64) (5 : Int64)).bind fun v6 =>
  (if v6 = 0 then (some ((-2 : Int32), M, L)) else
 ((F_X6_isOf M L x1 x2).bind fun v15 =>
   (if v15 = 0 then (some ((-2 : Int32), M, L)) else
  ((F_X6_mostOf x1).bind fun v25 =>
    ((F_X6_in (Int32.toInt64 x3) (0 : Int64) (Int32.toInt64 v25)).bind fun v29 =>
    (if v29 = 0 then (some ((-2 : Int32), M, L)) else
   (if x1 = (2 : Int32) then ((F_X6_whoOn M L x2).bind fun v45 =>
      (if v45 = 0 then (F_X6_set_k51 M L x1 x2 x3) else
     (some ((-2 : Int32), M, L)))) else
    (F_X6_set_k51 M L x1 x2 x3)))))))))
def F_X6_party (M : Mi) (L : Ml) (x1 : Int32) (x2 : Int32) (x3 : Int32) : Option (Int32 × Mi × Ml) :=
  ((F_X6_in (Int32.toInt64 x1) (0 : Int64) (5 : Int64)).bind fun v6 =>
  (if v6 = 0 then (some ((-2 : Int32), M, L)) else
 ((F_X6_in (Int32.toInt64 x2) (0 : Int64) (9 : Int64)).bind fun v18 =>
   (if v18 = 0 then (some ((-2 : Int32), M, L)) else
  ((F_X6_isTile x3).bind fun v25 =>
    (if v25 = 0 then (some ((-2 : Int32), M, L)) else
   ((F_X6_has (L 0 9) x3).bind fun v36 =>
     (if v36 = 0 then (if (M 0 11) = (5 : Int32) then (some ((-4 : Int32), M, L)) else
     (if ix ((4 : Int32) * (M 0 11)) 20 = true then
       (if ix (((4 : Int32) * ((up2 M 4 (Int32.toNatClampNeg ((4 : Int32) * (M 0 11))) x2) 0 11)) + (1 : Int32)) 20 = true then
       (if ix (((4 : Int32) * ((up2 (up2 M 4 (Int32.toNatClampNeg ((4 : Int32) * (M 0 11))) x2) 4 (Int32.toNatClampNeg (((4 : Int32) * ((up2 M 4 (Int32.toNatClampNeg ((4 : Int32) * (M 0 11))) x2) 0 11)) + (1 : Int32))) x3) 0 11)) + (2 : Int32)) 20 = true then
       (if ix (((4 : Int32) * ((up2 (up2 (up2 M 4 (Int32.toNatClampNeg ((4 : Int32) * (M 0 11))) x2) 4 (Int32.toNatClampNeg (((4 : Int32) * ((up2 M 4 (Int32.toNatClampNeg ((4 : Int32) * (M 0 11))) x2) 0 11)) + (1 : Int32))) x3) 4 (Int32.toNatClampNeg (((4 : Int32) * ((up2 (up2 M 4 (Int32.toNatClampNeg ((4 : Int32) * (M 0 11))) x2) 4 (Int32.toNatClampNeg (((4 : Int32) * ((up2 M 4 (Int32.toNatClampNeg ((4 : Int32) * (M 0 11))) x2) 0 11)) + (1 : Int32))) x3) 0 11)) + (2 : Int32))) (0 : Int32)) 0 11)) + (3 : Int32)) 20 = true then
       (some ((((up2 (up2 (up2 (up2 (up2 M 4 (Int32.toNatClampNeg ((4 : Int32) * (M 0 11))) x2) 4 (Int32.toNatClampNeg (((4 : Int32) * ((up2 M 4 (Int32.toNatClampNeg ((4 : Int32) * (M 0 11))) x2) 0 11)) + (1 : Int32))) x3) 4 (Int32.toNatClampNeg (((4 : Int32) * ((up2 (up2 M 4 (Int32.toNatClampNeg ((4 : Int32) * (M 0 11))) x2) 4 (Int32.toNatClampNeg (((4 : Int32) * ((up2 M 4 (Int32.toNatClampNeg ((4 : Int32) * (M 0 11))) x2) 0 11)) + (1 : Int32))) x3) 0 11)) + (2 : Int32))) (0 : Int32)) 4 (Int32.toNatClampNeg (((4 : Int32) * ((up2 (up2 (up2 M 4 (Int32.toNatClampNeg ((4 : Int32) * (M 0 11))) x2) 4 (Int32.toNatClampNeg (((4 : Int32) * ((up2 M 4 (Int32.toNatClampNeg ((4 : Int32) * (M 0 11))) x2) 0 11)) + (1 : Int32))) x3) 4 (Int32.toNatClampNeg (((4 : Int32) * ((up2 (up2 M 4 (Int32.toNatClampNeg ((4 : Int32) * (M 0 11))) x2) 4 (Int32.toNatClampNeg (((4 : Int32) * ((up2 M 4 (Int32.toNatClampNeg ((4 : Int32) * (M 0 11))) x2) 0 11)) + (1 : Int32))) x3) 0 11)) + (2 : Int32))) (0 : Int32)) 0 11)) + (3 : Int32))) x1) 0 11 (((up2 (up2 (up2 (up2 M 4 (Int32.toNatClampNeg ((4 : Int32) * (M 0 11))) x2) 4 (Int32.toNatClampNeg (((4 : Int32) * ((up2 M 4 (Int32.toNatClampNeg ((4 : Int32) * (M 0 11))) x2) 0 11)) + (1 : Int32))) x3) 4 (Int32.toNatClampNeg (((4 : Int32) * ((up2 (up2 M 4 (Int32.toNatClampNeg ((4 : Int32) * (M 0 11))) x2) 4 (Int32.toNatClampNeg (((4 : Int32) * ((up2 M 4 (Int32.toNatClampNeg ((4 : Int32) * (M 0 11))) x2) 0 11)) + (1 : Int32))) x3) 0 11)) + (2 : Int32))) (0 : Int32)) 4 (Int32.toNatClampNeg (((4 : Int32) * ((up2 (up2 (up2 M 4 (Int32.toNatClampNeg ((4 : Int32) * (M 0 11))) x2) 4 (Int32.toNatClampNeg (((4 : Int32) * ((up2 M 4 (Int32.toNatClampNeg ((4 : Int32) * (M 0 11))) x2) 0 11)) + (1 : Int32))) x3) 4 (Int32.toNatClampNeg (((4 : Int32) * ((up2 (up2 M 4 (Int32.toNatClampNeg ((4 : Int32) * (M 0 11))) x2) 4 (Int32.toNatClampNeg (((4 : Int32) * ((up2 M 4 (Int32.toNatClampNeg ((4 : Int32) * (M 0 11))) x2) 0 11)) + (1 : Int32))) x3) 0 11)) + (2 : Int32))) (0 : Int32)) 0 11)) + (3 : Int32))) x1) 0 11) + (1 : Int32))) 0 11) - (1 : Int32)), (up2 (up2 (up2 (up2 (up2 M 4 (Int32.toNatClampNeg ((4 : Int32) * (M 0 11))) x2) 4 (Int32.toNatClampNeg (((4 : Int32) * ((up2 M 4 (Int32.toNatClampNeg ((4 : Int32) * (M 0 11))) x2) 0 11)) + (1 : Int32))) x3) 4 (Int32.toNatClampNeg (((4 : Int32) * ((up2 (up2 M 4 (Int32.toNatClampNeg ((4 : Int32) * (M 0 11))) x2) 4 (Int32.toNatClampNeg (((4 : Int32) * ((up2 M 4 (Int32.toNatClampNeg ((4 : Int32) * (M 0 11))) x2) 0 11)) + (1 : Int32))) x3) 0 11)) + (2 : Int32))) (0 : Int32)) 4 (Int32.toNatClampNeg (((4 : Int32) * ((up2 (up2 (up2 M 4 (Int32.toNatClampNeg ((4 : Int32) * (M 0 11))) x2) 4 (Int32.toNatClampNeg (((4 : Int32) * ((up2 M 4 (Int32.toNatClampNeg ((4 : Int32) * (M 0 11))) x2) 0 11)) + (1 : Int32))) x3) 4 (Int32.toNatClampNeg (((4 : Int32) * ((up2 (up2 M 4 (Int32.toNatClampNeg ((4 : Int32) * (M 0 11))) x2) 4 (Int32.toNatClampNeg (((4 : Int32) * ((up2 M 4 (Int32.toNatClampNeg ((4 : Int32) * (M 0 11))) x2) 0 11)) + (1 : Int32))) x3) 0 11)) + (2 : Int32))) (0 : Int32)) 0 11)) + (3 : Int32))) x1) 0 11 (((up2 (up2 (up2 (up2 M 4 (Int32.toNatClampNeg ((4 : Int32) * (M 0 11))) x2) 4 (Int32.toNatClampNeg (((4 : Int32) * ((up2 M 4 (Int32.toNatClampNeg ((4 : Int32) * (M 0 11))) x2) 0 11)) + (1 : Int32))) x3) 4 (Int32.toNatClampNeg (((4 : Int32) * ((up2 (up2 M 4 (Int32.toNatClampNeg ((4 : Int32) * (M 0 11))) x2) 4 (Int32.toNatClampNeg (((4 : Int32) * ((up2 M 4 (Int32.toNatClampNeg ((4 : Int32) * (M 0 11))) x2) 0 11)) + (1 : Int32))) x3) 0 11)) + (2 : Int32))) (0 : Int32)) 4 (Int32.toNatClampNeg (((4 : Int32) * ((up2 (up2 (up2 M 4 (Int32.toNatClampNeg ((4 : Int32) * (M 0 11))) x2) 4 (Int32.toNatClampNeg (((4 : Int32) * ((up2 M 4 (Int32.toNatClampNeg ((4 : Int32) * (M 0 11))) x2) 0 11)) + (1 : Int32))) x3) 4 (Int32.toNatClampNeg (((4 : Int32) * ((up2 (up2 M 4 (Int32.toNatClampNeg ((4 : Int32) * (M 0 11))) x2) 4 (Int32.toNatClampNeg (((4 : Int32) * ((up2 M 4 (Int32.toNatClampNeg ((4 : Int32) * (M 0 11))) x2) 0 11)) + (1 : Int32))) x3) 0 11)) + (2 : Int32))) (0 : Int32)) 0 11)) + (3 : Int32))) x1) 0 11) + (1 : Int32))), L)) else none) else none) else none) else none)) else
    (some ((-2 : Int32), M, L))))))))))
def F_X6_stoodOn_k4 (M : Mi) (L : Ml) : Nat → Int64 → Int32 → Option (Int64)
  | 0, _, _ => none
  | n + 1, x1, x3 =>
  (if (M 0 11) ≤ x3 then (some x1) else
 ((F_X6_onOf M L x3).bind fun v16 =>
   (F_X6_stoodOn_k4 M L n ((x1 ||| (lshl (1 : Int64) v16))) ((x3 + (1 : Int32))))))
def F_X6_stoodOn (M : Mi) (L : Ml) : Option (Int64) :=
  (F_X6_stoodOn_k4 M L FU ((0 : Int64)) ((0 : Int32)))
def F_X6_floor (M : Mi) (L : Ml) (x1 : Int32) : Option (Int64) :=
  ((F_X6_in (Int32.toInt64 x1) (0 : Int64) (2 : Int64)).bind fun v6 =>
  (if v6 = 0 then (some (-4611686018427387904 : Int64)) else
 (if x1 = 0 then (some (L 0 8)) else
  (if x1 = (1 : Int32) then (some (L 0 9)) else
   ((F_X6_stoodOn M L).bind fun v40 =>
     (some v40))))))
def F_X6_feed (M : Mi) (L : Ml) (x1 : Int32) : Option (Int32 × Mi × Ml) :=
  ((F_X6_in (Int32.toInt64 x1) (0 : Int64) (255 : Int64)).bind fun v6 =>
  (if v6 = 0 then (some ((-2 : Int32), M, L)) else
 (if (M 0 6) = (160 : Int32) then (some ((-4 : Int32), M, L)) else
  (if ix (M 0 6) 160 = true then
    (some (((up2 (up2 M 3 (Int32.toNatClampNeg (M 0 6)) x1) 0 6 (((up2 M 3 (Int32.toNatClampNeg (M 0 6)) x1) 0 6) + (1 : Int32))) 0 6), (up2 (up2 M 3 (Int32.toNatClampNeg (M 0 6)) x1) 0 6 (((up2 M 3 (Int32.toNatClampNeg (M 0 6)) x1) 0 6) + (1 : Int32))), L)) else none))))
def F_X6_text_k14 : Nat → Mi → Ml → Int32 → Option (Int32 × Mi × Ml)
  | 0, _, _, _ => none
  | n + 1, M, L, x1 =>
  (if (M 0 6) ≤ x1 then (if ix (M 0 3) 6 = true then
   ((F_X6_read (up2 (up2 M 2 (Int32.toNatClampNeg (M 0 3)) (M 0 6)) 0 6 (0 : Int32)) L ((up2 (up2 M 2 (Int32.toNatClampNeg (M 0 3)) (M 0 6)) 0 6 (0 : Int32)) 0 3) (0 : Int32)).bind fun r73 =>
   (if (r73.2.1 0 26) = 0 then (some ((((up2 r73.2.1 0 3 ((r73.2.1 0 3) + (1 : Int32))) 0 3) - (1 : Int32)), (up2 r73.2.1 0 3 ((r73.2.1 0 3) + (1 : Int32))), r73.2.2)) else
  (some (((-100 : Int32) - (r73.2.1 0 27)), r73.2.1, r73.2.2)))) else none) else
 (if ix x1 160 = true then
   (if ix (((160 : Int32) * (M 0 3)) + x1) 960 = true then
   (F_X6_text_k14 n ((up2 M 1 (Int32.toNatClampNeg (((160 : Int32) * (M 0 3)) + x1)) (M 3 (Int32.toNatClampNeg x1)))) L ((x1 + (1 : Int32)))) else none) else none))
def F_X6_text (M : Mi) (L : Ml) : Option (Int32 × Mi × Ml) :=
  (if (M 0 3) = (6 : Int32) then (some ((-4 : Int32), M, L)) else
 (F_X6_text_k14 FU M L ((0 : Int32))))
def F_X6_force (M : Mi) (L : Ml) (x1 : Int32) : Option (Int32 × Mi × Ml) :=
  ((F_X6_in (Int32.toInt64 x1) (0 : Int64) (Int32.toInt64 ((M 0 3) - (1 : Int32)))).bind fun v10 =>
  (if v10 = 0 then (some ((-2 : Int32), M, L)) else
 (some ((M 0 4), (up2 M 0 4 x1), L))))
def F_X6_columnsBy_k9 : Option (Int32) :=
  (some (1 : Int32))
def F_X6_columnsBy_k23 : Option (Int32) :=
  (some (2 : Int32))
def F_X6_columnsBy_k38 : Option (Int32) :=
  (some (-1 : Int32))
def F_X6_columnsBy (x0 : Int32) : Option (Int32) :=
  (if x0 = 0 then (F_X6_columnsBy_k9) else
 (if x0 = (3 : Int32) then (F_X6_columnsBy_k9) else
  (if x0 = (1 : Int32) then (F_X6_columnsBy_k23) else
   (if x0 = (2 : Int32) then (F_X6_columnsBy_k23) else
    (if x0 = (4 : Int32) then (F_X6_columnsBy_k38) else
     (if x0 = (7 : Int32) then (F_X6_columnsBy_k38) else
      (some (-2 : Int32))))))))
def F_X6_rowsBy_k10 : Option (Int32) :=
  (some (2 : Int32))
def F_X6_rowsBy_k25 : Option (Int32) :=
  (some (1 : Int32))
def F_X6_rowsBy_k39 : Option (Int32) :=
  (some (-1 : Int32))
def F_X6_rowsBy (x0 : Int32) : Option (Int32) :=
  (if x0 = 0 then (F_X6_rowsBy_k10) else
 (if x0 = (7 : Int32) then (F_X6_rowsBy_k10) else
  (if x0 = (1 : Int32) then (F_X6_rowsBy_k25) else
   (if x0 = (6 : Int32) then (F_X6_rowsBy_k25) else
    (if x0 = (2 : Int32) then (F_X6_rowsBy_k39) else
     (if x0 = (5 : Int32) then (F_X6_rowsBy_k39) else
      (some (-2 : Int32))))))))
def F_X6_leapFrom_k206 (M : Mi) (L : Ml) (x2 : Int32) (x6 : Int32) (x7 : Int32) : Option (Int32) :=
  ((F_X6_in (Int32.toInt64 ((irm x2 (8 : Int32)) + x6)) (0 : Int64) (7 : Int64)).bind fun v231 =>
  (if v231 = 0 then (some (-1 : Int32)) else
 ((F_X6_in (Int32.toInt64 ((x2 / (8 : Int32)) + x7)) (0 : Int64) (7 : Int64)).bind fun v244 =>
   (if v244 = 0 then (some (-1 : Int32)) else
  ((F_X6_has (L 0 9) (((8 : Int32) * ((x2 / (8 : Int32)) + x7)) + ((irm x2 (8 : Int32)) + x6))).bind fun v262 =>
    (if v262 = 0 then (some (((8 : Int32) * ((x2 / (8 : Int32)) + x7)) + ((irm x2 (8 : Int32)) + x6))) else
   (some (-1 : Int32))))))))
def F_X6_leapFrom_k204 (M : Mi) (L : Ml) (x2 : Int32) (x6 : Int32) (s0 : Int32) : Option (Int32) :=
  (F_X6_leapFrom_k206 M L x2 x6 s0)
def F_X6_leapFrom_k184 (M : Mi) (L : Ml) (x2 : Int32) (x3 : Int32) (s0 : Int32) : Option (Int32) :=
  (if x3 = 0 then (F_X6_leapFrom_k204 M L x2 s0 ((1 : Int32))) else
 (if x3 = (4 : Int32) then (F_X6_leapFrom_k204 M L x2 s0 ((-1 : Int32))) else
  (F_X6_leapFrom_k204 M L x2 s0 ((0 : Int32)))))
def F_X6_leapFrom_k159 (M : Mi) (L : Ml) (x2 : Int32) (x3 : Int32) (x5 : Int32) (x6 : Int32) (x7 : Int32) : Option (Int32) :=
  (if x5 = 0 then (F_X6_leapFrom_k206 M L x2 x6 x7) else
 (if x3 = (2 : Int32) then (F_X6_leapFrom_k184 M L x2 x3 ((1 : Int32))) else
  (if x3 = (6 : Int32) then (F_X6_leapFrom_k184 M L x2 x3 ((-1 : Int32))) else
   (F_X6_leapFrom_k184 M L x2 x3 ((0 : Int32))))))
def F_X6_leapFrom_k157 (M : Mi) (L : Ml) (x2 : Int32) (x3 : Int32) (x5 : Int32) (x6 : Int32) (s0 : Int32) : Option (Int32) :=
  (F_X6_leapFrom_k159 M L x2 x3 x5 x6 s0)
def F_X6_leapFrom_k151 (M : Mi) (L : Ml) (x2 : Int32) (x3 : Int32) (x5 : Int32) (x6 : Int32) : Option (Int32) :=
  (F_X6_leapFrom_k157 M L x2 x3 x5 x6 ((2 : Int32)))
def F_X6_leapFrom_k140 (M : Mi) (L : Ml) (x2 : Int32) (x3 : Int32) (x5 : Int32) (s0 : Int32) : Option (Int32) :=
  (if x3 = 0 then (F_X6_leapFrom_k151 M L x2 x3 x5 s0) else
 (if x3 = (3 : Int32) then (F_X6_leapFrom_k151 M L x2 x3 x5 s0) else
  (F_X6_leapFrom_k157 M L x2 x3 x5 s0 ((-2 : Int32)))))
def F_X6_leapFrom_k124 (M : Mi) (L : Ml) (x2 : Int32) (x3 : Int32) (x5 : Int32) (x6 : Int32) (x7 : Int32) : Option (Int32) :=
  (if (4 : Int32) ≤ x3 then (F_X6_leapFrom_k159 M L x2 x3 x5 x6 x7) else
 (if (2 : Int32) ≤ x3 then (F_X6_leapFrom_k140 M L x2 x3 x5 ((-2 : Int32))) else
  (F_X6_leapFrom_k140 M L x2 x3 x5 ((2 : Int32)))))
def F_X6_leapFrom_k100 (M : Mi) (L : Ml) (x2 : Int32) (x3 : Int32) (x4 : Int32) (x5 : Int32) : Option (Int32) :=
  ((F_X6_columnsBy x3).bind fun v101 =>
  ((F_X6_rowsBy x3).bind fun v107 =>
  (if x4 = (1 : Int32) then (F_X6_leapFrom_k124 M L x2 x3 x5 v101 v107) else
 (if x4 = (3 : Int32) then (F_X6_leapFrom_k124 M L x2 x3 x5 v101 v107) else
  (F_X6_leapFrom_k159 M L x2 x3 x5 v101 v107)))))
def F_X6_leapFrom_k77 (M : Mi) (L : Ml) (x1 : Int32) (x2 : Int32) (x3 : Int32) (x4 : Int32) (x5 : Int32) : Option (Int32) :=
  (if x4 = (5 : Int32) then (if ix (((4 : Int32) * x1) + (2 : Int32)) 20 = true then
   (if (M 4 (Int32.toNatClampNeg (((4 : Int32) * x1) + (2 : Int32)))) ≤ (49 : Int32) then (F_X6_leapFrom_k100 M L x2 x3 x4 x5) else
  (some (-1 : Int32))) else none) else
 (F_X6_leapFrom_k100 M L x2 x3 x4 x5))
def F_X6_leapFrom_k61 (M : Mi) (L : Ml) (x1 : Int32) (x2 : Int32) (x3 : Int32) (x4 : Int32) (x5 : Int32) : Option (Int32) :=
  (if x4 = (4 : Int32) then (if (irm (M 0 7) (2 : Int32)) = (1 : Int32) then (some (-1 : Int32)) else
  (F_X6_leapFrom_k77 M L x1 x2 x3 x4 x5)) else
 (F_X6_leapFrom_k77 M L x1 x2 x3 x4 x5))
def F_X6_leapFrom_k43 (M : Mi) (L : Ml) (x1 : Int32) (x2 : Int32) (x3 : Int32) (x4 : Int32) (x5 : Int32) : Option (Int32) :=
  (if x4 = (3 : Int32) then (if ix ((4 : Int32) * x1) 20 = true then
   (if x3 = (M 4 (Int32.toNatClampNeg ((4 : Int32) * x1))) then (some (-1 : Int32)) else
  (F_X6_leapFrom_k61 M L x1 x2 x3 x4 x5)) else none) else
 (F_X6_leapFrom_k61 M L x1 x2 x3 x4 x5))
def F_X6_leapFrom_k29 (M : Mi) (L : Ml) (x1 : Int32) (x2 : Int32) (x3 : Int32) (x4 : Int32) (s0 : Int32) : Option (Int32) :=
  (if s0 = 0 then (F_X6_leapFrom_k43 M L x1 x2 x3 x4 s0) else
 (if (irm x3 (2 : Int32)) = (1 : Int32) then (some (-1 : Int32)) else
  (F_X6_leapFrom_k43 M L x1 x2 x3 x4 s0)))
def F_X6_leapFrom_k24 (M : Mi) (L : Ml) (x1 : Int32) (x2 : Int32) (x3 : Int32) (x4 : Int32) : Option (Int32) :=
  (F_X6_leapFrom_k29 M L x1 x2 x3 x4 ((1 : Int32)))
def F_X6_leapFrom (M : Mi) (L : Ml) (x1 : Int32) (x2 : Int32) (x3 : Int32) : Option (Int32) :=
  (if ix (((4 : Int32) * x1) + (3 : Int32)) 20 = true then
  ((some (M 4 (Int32.toNatClampNeg (((4 : Int32) * x1) + (3 : Int32))))).bind fun z10 =>
  (if z10 = (2 : Int32) then (F_X6_leapFrom_k24 M L x1 x2 x3 z10) else
 (if z10 = (4 : Int32) then (F_X6_leapFrom_k24 M L x1 x2 x3 z10) else
  (F_X6_leapFrom_k29 M L x1 x2 x3 z10 ((0 : Int32)))))) else none)
def F_X6_leap (M : Mi) (L : Ml) (x1 : Int32) (x2 : Int32) : Option (Int32) :=
  ((F_X6_isOne M L x1).bind fun v2 =>
  (if v2 = 0 then (some (-2 : Int32)) else
 ((F_X6_in (Int32.toInt64 x2) (0 : Int64) (7 : Int64)).bind fun v14 =>
   (if v14 = 0 then (some (-2 : Int32)) else
  ((F_X6_onOf M L x1).bind fun v24 =>
    ((F_X6_leapFrom M L x1 v24 x2).bind fun v28 =>
    (some v28)))))))
def F_X6_passes_k143 (kf4 : Mi → Ml → Int32 → Int32 → Option (Int32 × Mi × Ml)) (M : Mi) (L : Ml) (x2 : Int32) (s0 : Int32) (s1 : Int32) : Option (Int32 × Mi × Ml) :=
  (kf4 M L ((s0 ||| (ishl s1 x2))) ((x2 + (1 : Int32))))
def F_X6_passes_k130 (kf4 : Mi → Ml → Int32 → Int32 → Option (Int32 × Mi × Ml)) (M : Mi) (L : Ml) (x1 : Int32) (x2 : Int32) (x5 : Int32) (s1 : Int32) (s2 : Int32) : Option (Int32 × Mi × Ml) :=
  (if ix s1 20 = true then
  (if x5 = (-1 : Int32) then (F_X6_passes_k143 kf4 ((up2 M 4 (Int32.toNatClampNeg s1) s2)) L x2 x1 ((0 : Int32))) else
 (F_X6_passes_k143 kf4 ((up2 M 4 (Int32.toNatClampNeg s1) s2)) L x2 x1 ((1 : Int32)))) else none)
def F_X6_passes_k93 (kf4 : Mi → Ml → Int32 → Int32 → Option (Int32 × Mi × Ml)) (M : Mi) (L : Ml) (x1 : Int32) (x2 : Int32) (x5 : Int32) (s1 : Int32) (s2 : Int32) : Option (Int32 × Mi × Ml) :=
  ((F_X6_within s2 (0 : Int32) (99 : Int32)).bind fun v96 =>
  (if ix s1 20 = true then
  (if x5 = (-1 : Int32) then (if ix (((4 : Int32) * x2) + (1 : Int32)) 20 = true then
   (F_X6_passes_k130 kf4 ((up2 M 4 (Int32.toNatClampNeg s1) v96)) L x1 x2 x5 ((((4 : Int32) * x2) + (1 : Int32))) (((up2 M 4 (Int32.toNatClampNeg s1) v96) 4 (Int32.toNatClampNeg (((4 : Int32) * x2) + (1 : Int32)))))) else none) else
 (F_X6_passes_k130 kf4 ((up2 M 4 (Int32.toNatClampNeg s1) v96)) L x1 x2 x5 ((((4 : Int32) * x2) + (1 : Int32))) x5)) else none))
def F_X6_passes_k52 (kf4 : Mi → Ml → Int32 → Int32 → Option (Int32 × Mi × Ml)) (M : Mi) (L : Ml) (x1 : Int32) (x2 : Int32) (x3 : Int32) (x4 : Int32) (s0 : Int32) : Option (Int32 × Mi × Ml) :=
  (if ix (((4 : Int32) * x2) + (2 : Int32)) 20 = true then
  ((some (M 4 (Int32.toNatClampNeg (((4 : Int32) * x2) + (2 : Int32))))).bind fun z64 =>
  (if s0 = (-1 : Int32) then (F_X6_passes_k93 kf4 M L x1 x2 s0 ((((4 : Int32) * x2) + (2 : Int32))) ((z64 - x4))) else
 (F_X6_passes_k93 kf4 M L x1 x2 s0 ((((4 : Int32) * x2) + (2 : Int32))) ((z64 + x3))))) else none)
def F_X6_passes_k4 : Nat → Mi → Ml → Int32 → Int32 → Option (Int32 × Mi × Ml)
  | 0, _, _, _, _ => none
  | n + 1, M, L, x1, x2 =>
  (if (M 0 11) ≤ x2 then (some (x1, (up2 M 0 7 ((M 0 7) + (1 : Int32))), L)) else
 ((F_X6_tiresOf M L x2).bind fun r14 =>
   ((F_X6_restsOf r14.2.1 r14.2.2 x2).bind fun r20 =>
   (if x2 = (r20.2.1 0 12) then (F_X6_passes_k52 (F_X6_passes_k4 n) r20.2.1 r20.2.2 x1 x2 r14.1 r20.1 ((-1 : Int32))) else
  ((F_X6_onOf r20.2.1 r20.2.2 x2).bind fun v41 =>
    ((F_X6_turnOf r20.2.1 r20.2.2 x2).bind fun r46 =>
    ((F_X6_leapFrom r46.2.1 r46.2.2 x2 v41 r46.1).bind fun v49 =>
    (F_X6_passes_k52 (F_X6_passes_k4 n) r46.2.1 r46.2.2 x1 x2 r14.1 r20.1 v49))))))))
def F_X6_passes (M : Mi) (L : Ml) : Option (Int32 × Mi × Ml) :=
  (F_X6_passes_k4 FU M L ((0 : Int32)) ((0 : Int32)))
def F_X6_minute (M : Mi) (L : Ml) : Option (Int32 × Mi × Ml) :=
  (if (M 0 7) = (999 : Int32) then (some ((-3 : Int32), M, L)) else
 ((F_X6_passes M L).bind fun r16 =>
   (some (r16.1, r16.2.1, r16.2.2))))
def F_X6_laysAside_k2 : Nat → Mi → Ml → Int32 → Option (Mi × Ml)
  | 0, _, _, _ => none
  | n + 1, M, L, x1 =>
  (if (20 : Int32) ≤ x1 then (if ix (20 : Int32) 21 = true then
   (some ((up2 M 5 (Int32.toNatClampNeg (20 : Int32)) (M 0 7)), L)) else none) else
 (if ix x1 20 = true then
   (if ix x1 21 = true then
   (F_X6_laysAside_k2 n ((up2 M 5 (Int32.toNatClampNeg x1) (M 4 (Int32.toNatClampNeg x1)))) L ((x1 + (1 : Int32)))) else none) else none))
def F_X6_laysAside (M : Mi) (L : Ml) : Option (Mi × Ml) :=
  (F_X6_laysAside_k2 FU M L ((0 : Int32)))
def F_X6_laysBack_k2 : Nat → Mi → Ml → Int32 → Option (Mi × Ml)
  | 0, _, _, _ => none
  | n + 1, M, L, x1 =>
  (if (20 : Int32) ≤ x1 then (if ix (20 : Int32) 21 = true then
   (some ((up2 M 0 7 (M 5 (Int32.toNatClampNeg (20 : Int32)))), L)) else none) else
 (if ix x1 21 = true then
   (if ix x1 20 = true then
   (F_X6_laysBack_k2 n ((up2 M 4 (Int32.toNatClampNeg x1) (M 5 (Int32.toNatClampNeg x1)))) L ((x1 + (1 : Int32)))) else none) else none))
def F_X6_laysBack (M : Mi) (L : Ml) : Option (Mi × Ml) :=
  (F_X6_laysBack_k2 FU M L ((0 : Int32)))
def F_X6_goes_k2 : Nat → Mi → Ml → Int32 → Int32 → Option (Mi × Ml)
  | 0, _, _, _, _ => none
  | n + 1, M, L, x1, x2 =>
  (if x1 ≤ x2 then (some (M, L)) else
 ((F_X6_passes M L).bind fun r8 =>
   (F_X6_goes_k2 n r8.2.1 r8.2.2 x1 ((x2 + (1 : Int32))))))
def F_X6_goes (M : Mi) (L : Ml) (x1 : Int32) : Option (Mi × Ml) :=
  (F_X6_goes_k2 FU M L x1 ((0 : Int32)))
def F_X6_foundMany_k27 (M : Mi) (L : Ml) (kf4 : Int32 → Int32 → Int32 → Option (Int32)) (x1 : Int32) (x3 : Int32) (s0 : Int32) (s1 : Int32) : Option (Int32) :=
  (kf4 x1 ((s0 + s1)) ((x3 + (1 : Int32))))
def F_X6_foundMany_k4 (M : Mi) (L : Ml) : Nat → Int32 → Int32 → Int32 → Option (Int32)
  | 0, _, _, _ => none
  | n + 1, x1, x2, x3 =>
  (if (M 0 11) ≤ x3 then (some x2) else
 ((F_X6_foundOf M L x3).bind fun v15 =>
   (if v15 = x1 then (F_X6_foundMany_k27 M L (F_X6_foundMany_k4 M L n) x1 x3 x2 ((1 : Int32))) else
  (F_X6_foundMany_k27 M L (F_X6_foundMany_k4 M L n) x1 x3 x2 ((0 : Int32))))))
def F_X6_foundMany (M : Mi) (L : Ml) (x1 : Int32) : Option (Int32) :=
  (F_X6_foundMany_k4 M L FU x1 ((0 : Int32)) ((0 : Int32)))
def F_X6_foundBehind (M : Mi) (L : Ml) (x1 : Int32) (x2 : Int32) : Option (Int32 × Mi × Ml) :=
  ((F_X6_laysAside M L).bind fun r1 =>
  ((F_X6_goes r1.1 r1.2 x2).bind fun r6 =>
  ((F_X6_foundMany r6.1 r6.2 x1).bind fun v11 =>
  ((F_X6_laysBack r6.1 r6.2).bind fun r16 =>
  (some (v11, r16.1, r16.2))))))
def F_X6_run_k82 (M : Mi) (L : Ml) (s0 : Int32) : Option (Int32 × Mi × Ml) :=
  ((F_X6_laysBack M L).bind fun r85 =>
  (some (s0, r85.1, r85.2)))
def F_X6_run (M : Mi) (L : Ml) (x1 : Int32) (x2 : Int32) (x3 : Int32) : Option (Int32 × Mi × Ml) :=
  ((F_X6_isOne M L x1).bind fun v2 =>
  (if v2 = 0 then (some ((-2 : Int32), M, L)) else
 ((F_X6_in (Int32.toInt64 x2) (0 : Int64) (40 : Int64)).bind fun v14 =>
   (if v14 = 0 then (some ((-2 : Int32), M, L)) else
  ((F_X6_in (Int32.toInt64 x3) (0 : Int64) (3 : Int64)).bind fun v26 =>
    (if v26 = 0 then (some ((-2 : Int32), M, L)) else
   ((F_X6_laysAside M L).bind fun r36 =>
     ((F_X6_goes r36.1 r36.2 x2).bind fun r41 =>
     (if (2 : Int32) ≤ x3 then (if x3 = (2 : Int32) then ((F_X6_foundOf r41.1 r41.2 x1).bind fun v71 =>
       (F_X6_run_k82 r41.1 r41.2 v71)) else
     ((F_X6_foundMany r41.1 r41.2 (1 : Int32)).bind fun v79 =>
       (F_X6_run_k82 r41.1 r41.2 v79))) else
    (if ix ((((4 : Int32) * x1) + (1 : Int32)) + x3) 20 = true then
      (F_X6_run_k82 r41.1 r41.2 ((r41.1 4 (Int32.toNatClampNeg ((((4 : Int32) * x1) + (1 : Int32)) + x3))))) else none))))))))))
def F_X6_call_k76 (kf46 : Mi → Ml → Int32 → Int32 → Int32 → Int32 → Int32 → Int32 → Option (Int32 × Mi × Ml)) (M : Mi) (L : Ml) (x1 : Int32) (x2 : Int32) (x3 : Int32) (x4 : Int32) (x5 : Int32) (x6 : Int32) : Option (Int32 × Mi × Ml) :=
  (kf46 M L x1 x2 x3 x4 x5 ((x6 + (1 : Int32))))
def F_X6_call_k46 : Nat → Mi → Ml → Int32 → Int32 → Int32 → Int32 → Int32 → Int32 → Option (Int32 × Mi × Ml)
  | 0, _, _, _, _, _, _, _, _ => none
  | n + 1, M, L, x1, x2, x3, x4, x5, x6 =>
  (if x2 < x6 then (if x3 = 0 then (some (x4, M, L)) else
  (some (x5, M, L))) else
 ((F_X6_foundBehind M L x1 x6).bind fun r56 =>
   (if r56.1 ≤ x5 then (F_X6_call_k76 (F_X6_call_k46 n) r56.2.1 r56.2.2 x1 x2 x3 x4 x5 x6) else
  (F_X6_call_k76 (F_X6_call_k46 n) r56.2.1 r56.2.2 x1 x2 x3 x6 r56.1 x6))))
def F_X6_call (M : Mi) (L : Ml) (x1 : Int32) (x2 : Int32) (x3 : Int32) : Option (Int32 × Mi × Ml) :=
  ((F_X6_in (Int32.toInt64 x1) (0 : Int64) (2 : Int64)).bind fun v6 =>
  (if v6 = 0 then (some ((-2 : Int32), M, L)) else
 ((F_X6_in (Int32.toInt64 x2) (0 : Int64) (40 : Int64)).bind fun v18 =>
   (if v18 = 0 then (some ((-2 : Int32), M, L)) else
  ((F_X6_in (Int32.toInt64 x3) (0 : Int64) (1 : Int64)).bind fun v28 =>
    (if v28 = 0 then (some ((-2 : Int32), M, L)) else
   (F_X6_call_k46 FU M L x1 x2 x3 ((0 : Int32)) ((-1 : Int32)) ((0 : Int32)))))))))
def F_X6_meet_k48 (M : Mi) (L : Ml) (x3 : Int32) : Option (Int32 × Mi × Ml) :=
  ((F_X6_laysBack M L).bind fun r49 =>
  (if x3 ≤ (60 : Int32) then (some (x3, r49.1, r49.2)) else
 (some ((-1 : Int32), r49.1, r49.2))))
def F_X6_meet_k18 : Nat → Mi → Ml → Int32 → Int32 → Int32 → Option (Int32 × Mi × Ml)
  | 0, _, _, _, _, _ => none
  | n + 1, M, L, x1, x2, x3 =>
  (if (60 : Int32) < x3 then (F_X6_meet_k48 M L x3) else
 ((F_X6_onOf M L x1).bind fun v26 =>
   ((F_X6_onOf M L x2).bind fun v31 =>
   (if v26 = v31 then (F_X6_meet_k48 M L x3) else
  ((F_X6_passes M L).bind fun r38 =>
    (F_X6_meet_k18 n r38.2.1 r38.2.2 x1 x2 ((x3 + (1 : Int32)))))))))
def F_X6_meet (M : Mi) (L : Ml) (x1 : Int32) (x2 : Int32) : Option (Int32 × Mi × Ml) :=
  ((F_X6_areTwo M L x1 x2).bind fun v3 =>
  (if v3 = 0 then (some ((-2 : Int32), M, L)) else
 ((F_X6_laysAside M L).bind fun r13 =>
   (F_X6_meet_k18 FU r13.1 r13.2 x1 x2 ((0 : Int32))))))
def F_X6_reachedBy_k90 (M : Mi) (L : Ml) (kf33 : Int32 → Int32 → Int64 → Int64 → Int32 → Int32 → Option (Int64)) (x1 : Int32) (x2 : Int32) (x5 : Int64) (x7 : Int32) (x8 : Int32) (s0 : Int64) (s1 : Int64) : Option (Int64) :=
  (kf33 x1 x2 ((s0 ||| s1)) x5 x7 ((x8 + (1 : Int32))))
def F_X6_reachedBy_k73 (M : Mi) (L : Ml) (kf33 : Int32 → Int32 → Int64 → Int64 → Int32 → Int32 → Option (Int64)) (x1 : Int32) (x2 : Int32) (x3 : Int64) (x5 : Int64) (x7 : Int32) (x8 : Int32) (s0 : Int32) : Option (Int64) :=
  (if s0 = (-1 : Int32) then (F_X6_reachedBy_k90 M L kf33 x1 x2 x5 x7 x8 x3 ((0 : Int64))) else
 (F_X6_reachedBy_k90 M L kf33 x1 x2 x5 x7 x8 x3 ((lshl (1 : Int64) s0))))
def F_X6_reachedBy_k33 (M : Mi) (L : Ml) (kf14 : Int32 → Int32 → Int64 → Int64 → Int32 → Option (Int64)) : Nat → Int32 → Int32 → Int64 → Int64 → Int32 → Int32 → Option (Int64)
  | 0, _, _, _, _, _, _ => none
  | n + 1, x1, x2, x3, x5, x7, x8 =>
  (if (512 : Int32) ≤ x8 then (kf14 x1 x2 x3 x5 ((x7 + (1 : Int32)))) else
 ((F_X6_has x5 (x8 / (8 : Int32))).bind fun v48 =>
   (if v48 = 0 then (F_X6_reachedBy_k73 M L (F_X6_reachedBy_k33 M L kf14 n) x1 x2 x3 x5 x7 x8 ((-1 : Int32))) else
  ((F_X6_leapFrom M L x1 (x8 / (8 : Int32)) (irm x8 (8 : Int32))).bind fun v66 =>
    (F_X6_reachedBy_k73 M L (F_X6_reachedBy_k33 M L kf14 n) x1 x2 x3 x5 x7 x8 v66)))))
def F_X6_reachedBy_k14 (M : Mi) (L : Ml) : Nat → Int32 → Int32 → Int64 → Int64 → Int32 → Option (Int64)
  | 0, _, _, _, _, _ => none
  | n + 1, x1, x2, x3, x5, x7 =>
  (if x2 ≤ x7 then (some x3) else
 (if (lg_cmp x3 x5) = 0 then (some x3) else
  (F_X6_reachedBy_k33 M L (F_X6_reachedBy_k14 M L n) FU x1 x2 x3 x3 x7 ((0 : Int32)))))
def F_X6_reachedBy (M : Mi) (L : Ml) (x1 : Int32) (x2 : Int32) : Option (Int64) :=
  ((F_X6_onOf M L x1).bind fun v3 =>
  (F_X6_reachedBy_k14 M L FU x1 x2 ((lshl (1 : Int64) v3)) ((0 : Int64)) ((0 : Int32))))
def F_X6_reached (M : Mi) (L : Ml) (x1 : Int32) (x2 : Int32) : Option (Int64) :=
  ((F_X6_isOne M L x1).bind fun v2 =>
  (if v2 = 0 then (some (-4611686018427387904 : Int64)) else
 ((F_X6_in (Int32.toInt64 x2) (0 : Int64) (63 : Int64)).bind fun v14 =>
   (if v14 = 0 then (some (-4611686018427387904 : Int64)) else
  ((F_X6_reachedBy M L x1 x2).bind fun v23 =>
    (some v23))))))
def F_X6_fewest_k45 (M : Mi) (L : Ml) (x3 : Int32) : Option (Int32) :=
  (if x3 = (64 : Int32) then (some (-1 : Int32)) else
 (some x3))
def F_X6_fewest_k20 (M : Mi) (L : Ml) : Nat → Int32 → Int32 → Int32 → Option (Int32)
  | 0, _, _, _ => none
  | n + 1, x1, x2, x3 =>
  (if (64 : Int32) ≤ x3 then (F_X6_fewest_k45 M L x3) else
 ((F_X6_reachedBy M L x1 x3).bind fun v29 =>
   ((F_X6_has v29 x2).bind fun v33 =>
   (if v33 = 0 then (F_X6_fewest_k20 M L n x1 x2 ((x3 + (1 : Int32)))) else
  (F_X6_fewest_k45 M L x3)))))
def F_X6_fewest (M : Mi) (L : Ml) (x1 : Int32) (x2 : Int32) : Option (Int32) :=
  ((F_X6_isOne M L x1).bind fun v2 =>
  (if v2 = 0 then (some (-2 : Int32)) else
 ((F_X6_isTile x2).bind fun v9 =>
   (if v9 = 0 then (some (-2 : Int32)) else
  (F_X6_fewest_k20 M L FU x1 x2 ((0 : Int32)))))))
def F_X6_tries (M : Mi) (L : Ml) (x1 : Int32) (x2 : Int32) : Option (Mi × Ml) :=
  (if x2 ≤ (M 0 30) then (some (M, L)) else
 (some ((up2 (up2 M 0 29 x1) 0 30 x2), L)))
def F_X6_triesTile_k100 (M : Mi) (L : Ml) (x2 : Int32) (x3 : Int32) (x4 : Int32) (x5 : Int64) (x7 : Int64) (s1 : Int64) (s2 : Int64) : Option (Mi × Ml) :=
  ((F_X6_foundBehind M (up2 L 0 9 (s1 ||| s2)) x3 x4).bind fun r108 =>
  ((F_X6_tries r108.2.1 (up2 (up2 r108.2.2 0 8 x5) 0 9 x7) x2 r108.1).bind fun r129 =>
  (some (r129.1, r129.2))))
def F_X6_triesTile_k79 (M : Mi) (L : Ml) (x1 : Int32) (x2 : Int32) (x3 : Int32) (x4 : Int32) (x5 : Int64) (x7 : Int64) (s1 : Int64) (s2 : Int64) : Option (Mi × Ml) :=
  (if x1 = (2 : Int32) then (F_X6_triesTile_k100 M ((up2 L 0 8 (s1 ||| s2))) x2 x3 x4 x5 x7 (((up2 L 0 8 (s1 ||| s2)) 0 9)) ((lshl (1 : Int64) x2))) else
 (F_X6_triesTile_k100 M ((up2 L 0 8 (s1 ||| s2))) x2 x3 x4 x5 x7 (((up2 L 0 8 (s1 ||| s2)) 0 9)) ((0 : Int64))))
def F_X6_triesTile_k55 (M : Mi) (L : Ml) (x1 : Int32) (x2 : Int32) (x3 : Int32) (x4 : Int32) (x5 : Int64) (x7 : Int64) (s0 : Int32) : Option (Mi × Ml) :=
  (if s0 = 0 then (some (M, L)) else
 (if x1 = (1 : Int32) then (F_X6_triesTile_k79 M L x1 x2 x3 x4 x5 x7 ((L 0 8)) ((lshl (1 : Int64) x2))) else
  (F_X6_triesTile_k79 M L x1 x2 x3 x4 x5 x7 ((L 0 8)) ((0 : Int64)))))
def F_X6_triesTile_k54 (M : Mi) (L : Ml) (x1 : Int32) (x2 : Int32) (x3 : Int32) (x4 : Int32) (x5 : Int64) (x7 : Int64) : Option (Mi × Ml) :=
  (F_X6_triesTile_k55 M L x1 x2 x3 x4 x5 x7 ((0 : Int32)))
def F_X6_triesTile_k50 (M : Mi) (L : Ml) (x1 : Int32) (x2 : Int32) (x3 : Int32) (x4 : Int32) (x5 : Int64) (x7 : Int64) : Option (Mi × Ml) :=
  (F_X6_triesTile_k55 M L x1 x2 x3 x4 x5 x7 ((1 : Int32)))
def F_X6_triesTile (M : Mi) (L : Ml) (x1 : Int32) (x2 : Int32) (x3 : Int32) (x4 : Int32) : Option (Mi × Ml) :=
  ((F_X6_has (L 0 9) x2).bind fun v17 =>
  (if v17 = 0 then (if x1 = (1 : Int32) then ((F_X6_has (L 0 8) x2).bind fun v33 =>
    (if v33 = 0 then (F_X6_triesTile_k50 M L x1 x2 x3 x4 ((L 0 8)) ((L 0 9))) else
   (F_X6_triesTile_k54 M L x1 x2 x3 x4 ((L 0 8)) ((L 0 9))))) else
  ((F_X6_whoOn M L x2).bind fun v44 =>
    (if v44 = 0 then (F_X6_triesTile_k50 M L x1 x2 x3 x4 ((L 0 8)) ((L 0 9))) else
   (F_X6_triesTile_k54 M L x1 x2 x3 x4 ((L 0 8)) ((L 0 9)))))) else
 (F_X6_triesTile_k54 M L x1 x2 x3 x4 ((L 0 8)) ((L 0 9)))))
def F_X6_best_k136 (M : Mi) (L : Ml) (x3 : Int32) : Option (Int32 × Mi × Ml) :=
  (if (irm x3 (2 : Int32)) = 0 then (some ((M 0 29), M, L)) else
 (some ((M 0 30), M, L)))
def F_X6_best_k107 : Nat → Mi → Ml → Int32 → Int32 → Int32 → Int32 → Option (Int32 × Mi × Ml)
  | 0, _, _, _, _, _, _ => none
  | n + 1, M, L, x1, x2, x3, x4 =>
  (if (64 : Int32) ≤ x4 then (F_X6_best_k136 M L x3) else
 (if x3 ≤ (1 : Int32) then (F_X6_best_k136 M L x3) else
  ((F_X6_triesTile M L (x3 / (2 : Int32)) x4 x1 x2).bind fun r127 =>
    (F_X6_best_k107 n r127.1 r127.2 x1 x2 x3 ((x4 + (1 : Int32)))))))
def F_X6_best_k104 (M : Mi) (L : Ml) (x1 : Int32) (x2 : Int32) (x3 : Int32) : Option (Int32 × Mi × Ml) :=
  (F_X6_best_k107 FU M L x1 x2 x3 ((0 : Int32)))
def F_X6_best_k57 : Nat → Mi → Ml → Int32 → Int32 → Int32 → Int32 → Option (Int32 × Mi × Ml)
  | 0, _, _, _, _, _, _ => none
  | n + 1, M, L, x1, x2, x3, x4 =>
  (if (M 0 11) ≤ x4 then (F_X6_best_k104 M L x1 x2 x3) else
 (if (2 : Int32) ≤ x3 then (F_X6_best_k104 M L x1 x2 x3) else
  ((F_X6_foundBehind (up2 M 0 12 x4) L x1 x2).bind fun r80 =>
    ((F_X6_tries (up2 r80.2.1 0 12 (-1 : Int32)) r80.2.2 x4 r80.1).bind fun r95 =>
    (F_X6_best_k57 n r95.1 r95.2 x1 x2 x3 ((x4 + (1 : Int32))))))))
def F_X6_best (M : Mi) (L : Ml) (x1 : Int32) (x2 : Int32) (x3 : Int32) : Option (Int32 × Mi × Ml) :=
  ((F_X6_in (Int32.toInt64 x1) (0 : Int64) (2 : Int64)).bind fun v6 =>
  (if v6 = 0 then (some ((-2 : Int32), M, L)) else
 ((F_X6_in (Int32.toInt64 x2) (1 : Int64) (20 : Int64)).bind fun v18 =>
   (if v18 = 0 then (some ((-2 : Int32), M, L)) else
  ((F_X6_in (Int32.toInt64 x3) (0 : Int64) (5 : Int64)).bind fun v30 =>
    (if v30 = 0 then (some ((-2 : Int32), M, L)) else
   ((F_X6_foundBehind (up2 M 0 29 (-1 : Int32)) L x1 x2).bind fun r48 =>
     (F_X6_best_k57 FU ((up2 r48.2.1 0 30 r48.1)) r48.2.2 x1 x2 x3 ((0 : Int32))))))))))
def F_X6_lowest_k6 : Nat → Int64 → Int64 → Int32 → Int64 → Int64 → Option (Int64)
  | 0, _, _, _, _, _ => none
  | n + 1, x0, x2, x4, x5, x7 =>
  (if (lg_cmp x7 (0 : Int64)) = 0 then (if x4 = 0 then (if x5 = 0 then none else
    (some (x0 / x5))) else
  (if x5 = 0 then none else
    (some (x2 / x5)))) else
 (if x7 = 0 then none else
   (F_X6_lowest_k6 n x0 x2 x4 x7 ((lrm x5 x7)))))
def F_X6_lowest (x0 : Int64) (x2 : Int64) (x4 : Int32) : Option (Int64) :=
  (F_X6_lowest_k6 FU x0 x2 x4 x0 x2)
def F_X6_mean_k25 (M : Mi) (L : Ml) : Nat → Int32 → Int32 → Int32 → Option (Int64)
  | 0, _, _, _ => none
  | n + 1, x1, x2, x3 =>
  (if (M 0 11) ≤ x3 then ((F_X6_lowest (Int32.toInt64 x2) (Int32.toInt64 (M 0 11)) x1).bind fun v60 =>
   (some v60)) else
 (if ix (((4 : Int32) * x3) + (2 : Int32)) 20 = true then
   ((some (x2 + (M 4 (Int32.toNatClampNeg (((4 : Int32) * x3) + (2 : Int32)))))).bind fun z45 =>
   (F_X6_mean_k25 M L n x1 z45 ((x3 + (1 : Int32))))) else none))
def F_X6_mean (M : Mi) (L : Ml) (x1 : Int32) : Option (Int64) :=
  ((F_X6_in (Int32.toInt64 x1) (0 : Int64) (1 : Int64)).bind fun v4 =>
  (if v4 = 0 then (some (-4611686018427387904 : Int64)) else
 (if (M 0 11) = 0 then (some (-4611686018427387904 : Int64)) else
  (F_X6_mean_k25 M L FU x1 ((0 : Int32)) ((0 : Int32))))))
def F_X6_firstOther_k63 (M : Mi) (L : Ml) (x3 : Int32) : Option (Int32 × Mi × Ml) :=
  ((F_X6_laysBack M L).bind fun r64 =>
  (some (x3, r64.1, r64.2)))
def F_X6_firstOther_k56 (kf9 : Mi → Ml → Int32 → Int32 → Int32 → Int32 → Option (Int32 × Mi × Ml)) (M : Mi) (L : Ml) (x1 : Int32) (x2 : Int32) (x4 : Int32) (s0 : Int32) : Option (Int32 × Mi × Ml) :=
  (kf9 M L x1 x2 s0 ((x4 + (1 : Int32))))
def F_X6_firstOther_k9 : Nat → Mi → Ml → Int32 → Int32 → Int32 → Int32 → Option (Int32 × Mi × Ml)
  | 0, _, _, _, _, _, _ => none
  | n + 1, M, L, x1, x2, x3, x4 =>
  (if ix x1 4 = true then
  (if (M 9 (Int32.toNatClampNeg x1)) ≤ x4 then (F_X6_firstOther_k63 M L x3) else
 (if x3 = (-1 : Int32) then ((F_X6_passes M L).bind fun r26 =>
    ((F_X6_onOf r26.2.1 r26.2.2 x2).bind fun v32 =>
    (if ix (((40 : Int32) * x1) + x4) 160 = true then
    (if v32 = (r26.2.1 10 (Int32.toNatClampNeg (((40 : Int32) * x1) + x4))) then (F_X6_firstOther_k56 (F_X6_firstOther_k9 n) r26.2.1 r26.2.2 x1 x2 x4 ((-1 : Int32))) else
   (F_X6_firstOther_k56 (F_X6_firstOther_k9 n) r26.2.1 r26.2.2 x1 x2 x4 x4)) else none))) else
  (F_X6_firstOther_k63 M L x3))) else none)
def F_X6_firstOther (M : Mi) (L : Ml) (x1 : Int32) (x2 : Int32) : Option (Int32 × Mi × Ml) :=
  ((F_X6_laysAside M L).bind fun r1 =>
  (F_X6_firstOther_k9 FU r1.1 r1.2 x1 x2 ((-1 : Int32)) ((0 : Int32))))
def F_X6_likeSet_k28 (kf4 : Mi → Ml → Int32 → Int32 → Int32 → Option (Int32 × Mi × Ml)) (M : Mi) (L : Ml) (x1 : Int32) (x3 : Int32) (s0 : Int32) (s1 : Int32) : Option (Int32 × Mi × Ml) :=
  (kf4 M L x1 ((s0 ||| (ishl s1 x3))) ((x3 + (1 : Int32))))
def F_X6_likeSet_k4 : Nat → Mi → Ml → Int32 → Int32 → Int32 → Option (Int32 × Mi × Ml)
  | 0, _, _, _, _, _ => none
  | n + 1, M, L, x1, x2, x3 =>
  (if (M 0 11) ≤ x3 then (some (x2, M, L)) else
 ((F_X6_firstOther M L x1 x3).bind fun r16 =>
   (if r16.1 = (-1 : Int32) then (F_X6_likeSet_k28 (F_X6_likeSet_k4 n) r16.2.1 r16.2.2 x1 x3 x2 ((1 : Int32))) else
  (F_X6_likeSet_k28 (F_X6_likeSet_k4 n) r16.2.1 r16.2.2 x1 x3 x2 ((0 : Int32))))))
def F_X6_likeSet (M : Mi) (L : Ml) (x1 : Int32) : Option (Int32 × Mi × Ml) :=
  (F_X6_likeSet_k4 FU M L x1 ((0 : Int32)) ((0 : Int32)))
def F_X6_isSheet (x0 : Int32) : Option (Int32) :=
  ((F_X6_in (Int32.toInt64 x0) (0 : Int64) (3 : Int64)).bind fun v6 =>
  (rz v6))
def F_X6_tells_k66 (M : Mi) (L : Ml) (x1 : Int32) (x2 : Int32) (x3 : Int32) : Option (Int32 × Mi × Ml) :=
  (if x3 = 0 then ((F_X6_firstOther M L x1 x2).bind fun r73 =>
   (some (r73.1, r73.2.1, r73.2.2))) else
 ((F_X6_likeSet M L x1).bind fun r81 =>
   (some (r81.1, r81.2.1, r81.2.2))))
def F_X6_tells_k246 (kf195 : Mi → Ml → Int32 → Int32 → Int32 → Int32 → Int32 → Int32 → Int32 → Int32 → Int32 → Option (Int32 × Mi × Ml)) (M : Mi) (L : Ml) (x1 : Int32) (x2 : Int32) (x3 : Int32) (x4 : Int32) (x5 : Int32) (x7 : Int32) (x8 : Int32) (x9 : Int32) (x10 : Int32) : Option (Int32 × Mi × Ml) :=
  (kf195 M L x1 x2 x3 x4 x5 x7 x8 x9 ((x10 + (-1 : Int32))))
def F_X6_tells_k236 (kf195 : Mi → Ml → Int32 → Int32 → Int32 → Int32 → Int32 → Int32 → Int32 → Int32 → Int32 → Option (Int32 × Mi × Ml)) (M : Mi) (L : Ml) (x1 : Int32) (x2 : Int32) (x3 : Int32) (x4 : Int32) (x5 : Int32) (x8 : Int32) (x10 : Int32) (s0 : Int32) (s1 : Int32) : Option (Int32 × Mi × Ml) :=
  (F_X6_tells_k246 kf195 M L x1 x2 x3 x4 x5 ((s0 ||| s1)) ((x8 + (1 : Int32))) x10 x10)
def F_X6_tells_k195 : Nat → Mi → Ml → Int32 → Int32 → Int32 → Int32 → Int32 → Int32 → Int32 → Int32 → Int32 → Option (Int32 × Mi × Ml)
  | 0, _, _, _, _, _, _, _, _, _, _, _ => none
  | n + 1, M, L, x1, x2, x3, x4, x5, x7, x8, x9, x10 =>
  (if x10 < 0 then ((F_X6_lays M L x4 x2 x5).bind fun r258 =>
   (if x3 = (3 : Int32) then (some (x8, r258.1, r258.2)) else
  (if x3 = (4 : Int32) then (some (x9, r258.1, r258.2)) else
   (some (x7, r258.1, r258.2))))) else
 ((F_X6_lays M L x4 x2 x10).bind fun r206 =>
   ((F_X6_firstOther r206.1 r206.2 x1 x2).bind fun r212 =>
   (if r212.1 = (-1 : Int32) then (if (10 : Int32) ≤ x10 then (F_X6_tells_k236 (F_X6_tells_k195 n) r212.2.1 r212.2.2 x1 x2 x3 x4 x5 x8 x10 x7 ((0 : Int32))) else
   (F_X6_tells_k236 (F_X6_tells_k195 n) r212.2.1 r212.2.2 x1 x2 x3 x4 x5 x8 x10 x7 ((ishl (1 : Int32) x10)))) else
  (F_X6_tells_k246 (F_X6_tells_k195 n) r212.2.1 r212.2.2 x1 x2 x3 x4 x5 x7 x8 x9 x10)))))
def F_X6_tells_k180 (M : Mi) (L : Ml) (x1 : Int32) (x2 : Int32) (x3 : Int32) (x4 : Int32) (x5 : Int32) (s0 : Int32) : Option (Int32 × Mi × Ml) :=
  (F_X6_tells_k195 FU M L x1 x2 x3 x4 x5 ((0 : Int32)) ((0 : Int32)) ((-1 : Int32)) s0)
def F_X6_tells_k138 (M : Mi) (L : Ml) (x1 : Int32) (x2 : Int32) (x3 : Int32) (x4 : Int32) (s0 : Int32) : Option (Int32 × Mi × Ml) :=
  (if x4 = (7 : Int32) then (F_X6_tells_k180 M L x1 x2 x3 x4 s0 (((M 0 3) - (1 : Int32)))) else
 (if x4 = (6 : Int32) then (F_X6_tells_k180 M L x1 x2 x3 x4 s0 ((5 : Int32))) else
  (if x4 = (3 : Int32) then (F_X6_tells_k180 M L x1 x2 x3 x4 s0 ((9 : Int32))) else
   (F_X6_tells_k180 M L x1 x2 x3 x4 s0 ((99 : Int32))))))
def F_X6_tells_k115 (M : Mi) (L : Ml) (x1 : Int32) (x2 : Int32) (x3 : Int32) (s0 : Int32) : Option (Int32 × Mi × Ml) :=
  (if s0 = (7 : Int32) then (F_X6_tells_k138 M L x1 x2 x3 s0 ((M 0 4))) else
 ((F_X6_told M L x2 s0).bind fun r135 =>
   (F_X6_tells_k138 r135.2.1 r135.2.2 x1 x2 x3 s0 r135.1)))
def F_X6_tells (M : Mi) (L : Ml) (x1 : Int32) (x2 : Int32) (x3 : Int32) : Option (Int32 × Mi × Ml) :=
  ((F_X6_isSheet x1).bind fun v1 =>
  (if v1 = 0 then (some ((-2 : Int32), M, L)) else
 ((F_X6_isOne M L x2).bind fun v9 =>
   (if v9 = 0 then (some ((-2 : Int32), M, L)) else
  ((F_X6_in (Int32.toInt64 x3) (0 : Int64) (6 : Int64)).bind fun v21 =>
    (if v21 = 0 then (some ((-2 : Int32), M, L)) else
   (if ix x1 4 = true then
     (if (M 7 (Int32.toNatClampNeg x1)) = 0 then (some ((-11 : Int32), M, L)) else
    (if ix x1 4 = true then
      (if (M 9 (Int32.toNatClampNeg x1)) ≤ (20 : Int32) then (if x3 = 0 then (F_X6_tells_k66 M L x1 x2 x3) else
      (if x3 = (6 : Int32) then (F_X6_tells_k66 M L x1 x2 x3) else
       (if x3 = (1 : Int32) then (F_X6_tells_k115 M L x1 x2 x3 ((6 : Int32))) else
        (if x3 = (2 : Int32) then (F_X6_tells_k115 M L x1 x2 x3 ((3 : Int32))) else
         (if x3 = (5 : Int32) then (F_X6_tells_k115 M L x1 x2 x3 ((7 : Int32))) else
          (F_X6_tells_k115 M L x1 x2 x3 ((5 : Int32)))))))) else
     (some ((-2 : Int32), M, L))) else none)) else none)))))))
def F_X6_stood_k102 (kf51 : Mi → Ml → Int32 → Int32 → Int32 → Int64 → Int32 → Option (Int64 × Mi × Ml)) (M : Mi) (L : Ml) (x1 : Int32) (x2 : Int32) (x3 : Int32) (x6 : Int32) (s0 : Int64) (s1 : Int64) : Option (Int64 × Mi × Ml) :=
  (kf51 M L x1 x2 x3 ((s0 ||| s1)) ((x6 + (1 : Int32))))
def F_X6_stood_k101 (kf51 : Mi → Ml → Int32 → Int32 → Int32 → Int64 → Int32 → Option (Int64 × Mi × Ml)) (M : Mi) (L : Ml) (x1 : Int32) (x2 : Int32) (x3 : Int32) (x6 : Int32) (s0 : Int64) : Option (Int64 × Mi × Ml) :=
  (F_X6_stood_k102 kf51 M L x1 x2 x3 x6 s0 ((0 : Int64)))
def F_X6_stood_k51 : Nat → Mi → Ml → Int32 → Int32 → Int32 → Int64 → Int32 → Option (Int64 × Mi × Ml)
  | 0, _, _, _, _, _, _, _ => none
  | n + 1, M, L, x1, x2, x3, x4, x6 =>
  (if (64 : Int32) ≤ x6 then (if ix (((4 : Int32) * x2) + (1 : Int32)) 20 = true then
   (some (x4, (up2 M 4 (Int32.toNatClampNeg (((4 : Int32) * x2) + (1 : Int32))) x3), L)) else none) else
 (if ix (((4 : Int32) * x2) + (1 : Int32)) 20 = true then
   ((F_X6_has (L 0 9) x6).bind fun v78 =>
   (if v78 = 0 then ((F_X6_firstOther (up2 M 4 (Int32.toNatClampNeg (((4 : Int32) * x2) + (1 : Int32))) x6) L x1 x2).bind fun r87 =>
    (if r87.1 = (-1 : Int32) then (F_X6_stood_k102 (F_X6_stood_k51 n) r87.2.1 r87.2.2 x1 x2 x3 x6 x4 ((lshl (1 : Int64) x6))) else
   (F_X6_stood_k101 (F_X6_stood_k51 n) r87.2.1 r87.2.2 x1 x2 x3 x6 x4))) else
  (F_X6_stood_k101 (F_X6_stood_k51 n) ((up2 M 4 (Int32.toNatClampNeg (((4 : Int32) * x2) + (1 : Int32))) x6)) L x1 x2 x3 x6 x4))) else none))
def F_X6_stood (M : Mi) (L : Ml) (x1 : Int32) (x2 : Int32) : Option (Int64 × Mi × Ml) :=
  ((F_X6_isSheet x1).bind fun v1 =>
  (if v1 = 0 then (some ((-4611686018427387904 : Int64), M, L)) else
 ((F_X6_isOne M L x2).bind fun v9 =>
   (if v9 = 0 then (some ((-4611686018427387904 : Int64), M, L)) else
  (if ix x1 4 = true then
    (if (M 7 (Int32.toNatClampNeg x1)) = 0 then (some ((-4611686018427387904 : Int64), M, L)) else
   (if ix x1 4 = true then
     (if (M 9 (Int32.toNatClampNeg x1)) ≤ (20 : Int32) then ((F_X6_onOf M L x2).bind fun v41 =>
      (F_X6_stood_k51 FU M L x1 x2 v41 ((0 : Int64)) ((0 : Int32)))) else
    (some ((-4611686018427387904 : Int64), M, L))) else none)) else none)))))
def F_X6_sheet_k77 : Nat → Mi → Ml → Int32 → Int32 → Int32 → Int32 → Option (Int32 × Mi × Ml)
  | 0, _, _, _, _, _, _ => none
  | n + 1, M, L, x1, x2, x3, x4 =>
  (if x3 ≤ x4 then (some ((1 : Int32), M, L)) else
 (if x2 < 0 then (some ((1 : Int32), M, L)) else
  (if ix (((40 : Int32) * x1) + x4) 160 = true then
    (F_X6_sheet_k77 n ((up2 M 10 (Int32.toNatClampNeg (((40 : Int32) * x1) + x4)) (0 : Int32))) L x1 x2 x3 ((x4 + (1 : Int32)))) else none)))
def F_X6_sheet_k59 (M : Mi) (L : Ml) (x1 : Int32) (x2 : Int32) (x3 : Int32) (s1 : Int32) (s2 : Int32) : Option (Int32 × Mi × Ml) :=
  (if ix s1 4 = true then
  (if ix x1 4 = true then
  (if ix x1 4 = true then
  (F_X6_sheet_k77 FU ((up2 (up2 (up2 M 7 (Int32.toNatClampNeg s1) (vp_nar .boolean s2)) 8 (Int32.toNatClampNeg x1) x2) 9 (Int32.toNatClampNeg x1) x3)) L x1 x2 x3 ((0 : Int32))) else none) else none) else none)
def F_X6_sheet_k45 (M : Mi) (L : Ml) (x1 : Int32) (x2 : Int32) (x3 : Int32) : Option (Int32 × Mi × Ml) :=
  (if x2 < 0 then (F_X6_sheet_k59 M L x1 x2 x3 x1 ((0 : Int32))) else
 (F_X6_sheet_k59 M L x1 x2 x3 x1 ((1 : Int32))))
def F_X6_sheet_k34 (M : Mi) (L : Ml) (x1 : Int32) (x2 : Int32) (x3 : Int32) : Option (Int32 × Mi × Ml) :=
  (if x2 < 0 then (F_X6_sheet_k45 M L x1 x2 x3) else
 (if 0 ≤ x3 then (F_X6_sheet_k45 M L x1 x2 x3) else
  (some ((-14 : Int32), M, L))))
def F_X6_sheet (M : Mi) (L : Ml) (x1 : Int32) (x2 : Int32) (x3 : Int32) : Option (Int32 × Mi × Ml) :=
  ((F_X6_isSheet x1).bind fun v1 =>
  (if v1 = 0 then (some ((-2 : Int32), M, L)) else
 ((F_X6_in (Int32.toInt64 x2) (-1 : Int64) (2 : Int64)).bind fun v15 =>
   (if v15 = 0 then (some ((-2 : Int32), M, L)) else
  (if x2 < 0 then (F_X6_sheet_k34 M L x1 x2 x3) else
   (if x3 ≤ (40 : Int32) then (F_X6_sheet_k34 M L x1 x2 x3) else
    (some ((-2 : Int32), M, L))))))))
def F_X6_film_k45 : Nat → Mi → Ml → Int32 → Int32 → Int32 → Int32 → Option (Int32 × Mi × Ml)
  | 0, _, _, _, _, _, _ => none
  | n + 1, M, L, x1, x2, x3, x4 =>
  (if x3 ≤ x4 then ((F_X6_laysBack M L).bind fun r80 =>
   (some (x3, r80.1, r80.2))) else
 ((F_X6_passes M L).bind fun r52 =>
   ((F_X6_onOf r52.2.1 r52.2.2 x2).bind fun v69 =>
   (if ix (((40 : Int32) * x1) + x4) 160 = true then
   (F_X6_film_k45 n ((up2 r52.2.1 10 (Int32.toNatClampNeg (((40 : Int32) * x1) + x4)) v69)) r52.2.2 x1 x2 x3 ((x4 + (1 : Int32)))) else none))))
def F_X6_film (M : Mi) (L : Ml) (x1 : Int32) (x2 : Int32) (x3 : Int32) : Option (Int32 × Mi × Ml) :=
  ((F_X6_isSheet x1).bind fun v1 =>
  (if v1 = 0 then (some ((-2 : Int32), M, L)) else
 ((F_X6_isOne M L x2).bind fun v9 =>
   (if v9 = 0 then (some ((-2 : Int32), M, L)) else
  ((F_X6_in (Int32.toInt64 x3) (0 : Int64) (20 : Int64)).bind fun v21 =>
    (if v21 = 0 then (some ((-2 : Int32), M, L)) else
   ((F_X6_sheet M L x1 (0 : Int32) x3).bind fun r34 =>
     ((F_X6_laysAside r34.2.1 r34.2.2).bind fun r39 =>
     (F_X6_film_k45 FU r39.1 r39.2 x1 x2 x3 ((0 : Int32)))))))))))
def F_X6_onDrawn_k61 (M : Mi) (L : Ml) (kf13 : Int32 → Int32 → Int32 → Int32 → Int32 → Option (Int32)) (x2 : Int32) (x3 : Int32) (x4 : Int32) (x6 : Int32) (s0 : Int32) : Option (Int32) :=
  (kf13 x2 x3 x4 s0 ((x6 + (1 : Int32))))
def F_X6_onDrawn_k13 (M : Mi) (L : Ml) : Nat → Int32 → Int32 → Int32 → Int32 → Int32 → Option (Int32)
  | 0, _, _, _, _, _ => none
  | n + 1, x2, x3, x4, x5, x6 =>
  (if x3 ≤ x6 then (some x5) else
 ((some ((x4 * (1103515245 : Int32)) + (12345 : Int32))).bind fun z29 =>
   ((F_X6_leapFrom M L x2 x5 (irm (iushr z29 (9 : Int32)) (8 : Int32))).bind fun v43 =>
   (if v43 = (-1 : Int32) then (F_X6_onDrawn_k61 M L (F_X6_onDrawn_k13 M L n) x2 x3 z29 x6 x5) else
  (F_X6_onDrawn_k61 M L (F_X6_onDrawn_k13 M L n) x2 x3 z29 x6 v43)))))
def F_X6_onDrawn (M : Mi) (L : Ml) (x1 : Int32) (x2 : Int32) (x3 : Int32) : Option (Int32) :=
  ((F_X6_onOf M L x2).bind fun v5 =>
  (F_X6_onDrawn_k13 M L FU x2 x3 x1 v5 ((0 : Int32))))
def F_X6_drawn (M : Mi) (L : Ml) (x1 : Int32) (x2 : Int32) (x3 : Int32) : Option (Int32) :=
  ((F_X6_isOne M L x2).bind fun v2 =>
  (if v2 = 0 then (some (-2 : Int32)) else
 ((F_X6_in (Int32.toInt64 x3) (0 : Int64) (40 : Int64)).bind fun v14 =>
   (if v14 = 0 then (some (-2 : Int32)) else
  ((F_X6_onDrawn M L x1 x2 x3).bind fun v24 =>
    (some v24))))))
def F_X6_chance_k87 (M : Mi) (L : Ml) (kf41 : Int32 → Int32 → Int32 → Int32 → Int64 → Int32 → Option (Int64)) (x1 : Int32) (x2 : Int32) (x3 : Int32) (x4 : Int32) (x7 : Int32) (s0 : Int64) (s1 : Int64) : Option (Int64) :=
  (kf41 x1 x2 x3 x4 ((s0 + s1)) ((x7 + (1 : Int32))))
def F_X6_chance_k86 (M : Mi) (L : Ml) (kf41 : Int32 → Int32 → Int32 → Int32 → Int64 → Int32 → Option (Int64)) (x1 : Int32) (x2 : Int32) (x3 : Int32) (x4 : Int32) (x7 : Int32) (s0 : Int64) : Option (Int64) :=
  (F_X6_chance_k87 M L kf41 x1 x2 x3 x4 x7 s0 ((0 : Int64)))
def F_X6_chance_k41 (M : Mi) (L : Ml) : Nat → Int32 → Int32 → Int32 → Int32 → Int64 → Int32 → Option (Int64)
  | 0, _, _, _, _, _, _ => none
  | n + 1, x1, x2, x3, x4, x5, x7 =>
  (if x2 ≤ x7 then ((F_X6_lowest x5 (Int32.toInt64 x2) x4).bind fun v102 =>
   (some v102)) else
 ((F_X6_onDrawn M L (x1 + x7) x3 (8 : Int32)).bind fun v55 =>
   ((F_X6_isBlack v55).bind fun v64 =>
   (if v64 = 0 then (F_X6_chance_k86 M L (F_X6_chance_k41 M L n) x1 x2 x3 x4 x7 x5) else
  ((F_X6_has (L 0 8) v55).bind fun v76 =>
    (if v76 = 0 then (F_X6_chance_k87 M L (F_X6_chance_k41 M L n) x1 x2 x3 x4 x7 x5 ((1 : Int64))) else
   (F_X6_chance_k86 M L (F_X6_chance_k41 M L n) x1 x2 x3 x4 x7 x5)))))))
def F_X6_chance (M : Mi) (L : Ml) (x1 : Int32) (x2 : Int32) (x3 : Int32) (x4 : Int32) : Option (Int64) :=
  ((F_X6_in (Int32.toInt64 x2) (1 : Int64) (40 : Int64)).bind fun v6 =>
  (if v6 = 0 then (some (-4611686018427387904 : Int64)) else
 ((F_X6_isOne M L x3).bind fun v14 =>
   (if v14 = 0 then (some (-4611686018427387904 : Int64)) else
  ((F_X6_in (Int32.toInt64 x4) (0 : Int64) (1 : Int64)).bind fun v25 =>
    (if v25 = 0 then (some (-4611686018427387904 : Int64)) else
   (F_X6_chance_k41 M L FU x1 x2 x3 x4 ((0 : Int64)) ((0 : Int32)))))))))
def F_X6_image_k2 : Nat → Mi → Ml → Int32 → Option (Int32 × Mi × Ml)
  | 0, _, _, _ => none
  | n + 1, M, L, x1 =>
  (if (20 : Int32) ≤ x1 then (some (((up2 (up2 (up2 M 0 32 (M 0 11)) 0 33 ((up2 M 0 32 (M 0 11)) 0 7)) 0 34 ((up2 (up2 M 0 32 (M 0 11)) 0 33 ((up2 M 0 32 (M 0 11)) 0 7)) 0 4)) 0 11), (up2 (up2 (up2 M 0 32 (M 0 11)) 0 33 ((up2 M 0 32 (M 0 11)) 0 7)) 0 34 ((up2 (up2 M 0 32 (M 0 11)) 0 33 ((up2 M 0 32 (M 0 11)) 0 7)) 0 4)), (up2 (up2 L 0 35 (L 0 8)) 0 36 ((up2 L 0 35 (L 0 8)) 0 9)))) else
 (if ix x1 20 = true then
   (if ix x1 20 = true then
   (F_X6_image_k2 n ((up2 M 6 (Int32.toNatClampNeg x1) (M 4 (Int32.toNatClampNeg x1)))) L ((x1 + (1 : Int32)))) else none) else none))
def F_X6_image (M : Mi) (L : Ml) : Option (Int32 × Mi × Ml) :=
  (F_X6_image_k2 FU M L ((0 : Int32)))
def F_X6_back_k13 : Nat → Mi → Ml → Int32 → Option (Int32 × Mi × Ml)
  | 0, _, _, _ => none
  | n + 1, M, L, x1 =>
  (if (20 : Int32) ≤ x1 then (some (((up2 (up2 (up2 M 0 11 (M 0 32)) 0 7 ((up2 M 0 11 (M 0 32)) 0 33)) 0 4 ((up2 (up2 M 0 11 (M 0 32)) 0 7 ((up2 M 0 11 (M 0 32)) 0 33)) 0 34)) 0 11), (up2 (up2 (up2 M 0 11 (M 0 32)) 0 7 ((up2 M 0 11 (M 0 32)) 0 33)) 0 4 ((up2 (up2 M 0 11 (M 0 32)) 0 7 ((up2 M 0 11 (M 0 32)) 0 33)) 0 34)), (up2 (up2 L 0 8 (L 0 35)) 0 9 ((up2 L 0 8 (L 0 35)) 0 36)))) else
 (if ix x1 20 = true then
   (if ix x1 20 = true then
   (F_X6_back_k13 n ((up2 M 4 (Int32.toNatClampNeg x1) (M 6 (Int32.toNatClampNeg x1)))) L ((x1 + (1 : Int32)))) else none) else none))
def F_X6_back (M : Mi) (L : Ml) : Option (Int32 × Mi × Ml) :=
  (if (M 0 32) = (-1 : Int32) then (some ((-3 : Int32), M, L)) else
 (F_X6_back_k13 FU M L ((0 : Int32))))
def F_X6_count (M : Mi) (L : Ml) (x1 : Int32) : Option (Int32) :=
  ((F_X6_in (Int32.toInt64 x1) (0 : Int64) (5 : Int64)).bind fun v6 =>
  (if v6 = 0 then (some (-2 : Int32)) else
 (if x1 = 0 then (some (M 0 11)) else
  (if x1 = (1 : Int32) then ((F_X6_bitsOf (L 0 9)).bind fun v35 =>
     (some v35)) else
   (if x1 = (2 : Int32) then (some (M 0 7)) else
    (if x1 = (3 : Int32) then (some (M 0 3)) else
     (if x1 = (4 : Int32) then (some (M 0 6)) else
      (some (M 0 4)))))))))
def F_X6_cell (M : Mi) (L : Ml) (x1 : Int32) (x2 : Int32) (x3 : Int32) : Option (Int32 × Mi × Ml) :=
  ((F_X6_isSheet x1).bind fun v1 =>
  (if v1 = 0 then (some ((-2 : Int32), M, L)) else
 (if ix x1 4 = true then
   (if (M 7 (Int32.toNatClampNeg x1)) = 0 then (some ((-11 : Int32), M, L)) else
  (if ix x1 4 = true then
    ((F_X6_in (Int32.toInt64 x2) (0 : Int64) (Int32.toInt64 ((M 9 (Int32.toNatClampNeg x1)) - (1 : Int32)))).bind fun v34 =>
    (if v34 = 0 then (some ((-12 : Int32), M, L)) else
   (if ix x1 4 = true then
     (if (M 8 (Int32.toNatClampNeg x1)) = 0 then (if ix (((40 : Int32) * x1) + x2) 160 = true then
      (some ((1 : Int32), (up2 M 10 (Int32.toNatClampNeg (((40 : Int32) * x1) + x2)) (Int8.toInt32 (Int32.toInt8 x3))), L)) else none) else
    (if ix x1 4 = true then
      (if (M 8 (Int32.toNatClampNeg x1)) = (1 : Int32) then (if ix (((40 : Int32) * x1) + x2) 160 = true then
       (some ((1 : Int32), (up2 M 10 (Int32.toNatClampNeg (((40 : Int32) * x1) + x2)) (Int16.toInt32 (Int32.toInt16 x3))), L)) else none) else
     (if ix (((40 : Int32) * x1) + x2) 160 = true then
       (some ((1 : Int32), (up2 M 10 (Int32.toNatClampNeg (((40 : Int32) * x1) + x2)) x3), L)) else none)) else none)) else none))) else none)) else none)))
def F_X6_copy_k145 (kf121 : Mi → Ml → Int32 → Int32 → Int32 → Int32 → Int32 → Int32 → Int32 → Option (Int32 × Mi × Ml)) (M : Mi) (L : Ml) (x1 : Int32) (x2 : Int32) (x3 : Int32) (x4 : Int32) (x5 : Int32) (x6 : Int32) (x7 : Int32) (s0 : Int32) : Option (Int32 × Mi × Ml) :=
  (if ix ((((40 : Int32) * x1) + x2) + s0) 160 = true then
  (if ix ((((40 : Int32) * x3) + x4) + s0) 160 = true then
  (kf121 ((up2 M 10 (Int32.toNatClampNeg ((((40 : Int32) * x3) + x4) + s0)) (M 10 (Int32.toNatClampNeg ((((40 : Int32) * x1) + x2) + s0))))) L x1 x2 x3 x4 x5 x6 ((x7 + (1 : Int32)))) else none) else none)
def F_X6_copy_k121 : Nat → Mi → Ml → Int32 → Int32 → Int32 → Int32 → Int32 → Int32 → Int32 → Option (Int32 × Mi × Ml)
  | 0, _, _, _, _, _, _, _, _, _ => none
  | n + 1, M, L, x1, x2, x3, x4, x5, x6, x7 =>
  (if x5 ≤ x7 then (some (x5, M, L)) else
 (if x6 = 0 then (F_X6_copy_k145 (F_X6_copy_k121 n) M L x1 x2 x3 x4 x5 x6 x7 x7) else
  (F_X6_copy_k145 (F_X6_copy_k121 n) M L x1 x2 x3 x4 x5 x6 x7 (((x5 - (1 : Int32)) - x7)))))
def F_X6_copy_k116 (M : Mi) (L : Ml) (x1 : Int32) (x2 : Int32) (x3 : Int32) (x4 : Int32) (x5 : Int32) (s0 : Int32) : Option (Int32 × Mi × Ml) :=
  (F_X6_copy_k121 FU M L x1 x2 x3 x4 x5 s0 ((0 : Int32)))
def F_X6_copy_k115 (M : Mi) (L : Ml) (x1 : Int32) (x2 : Int32) (x3 : Int32) (x4 : Int32) (x5 : Int32) : Option (Int32 × Mi × Ml) :=
  (F_X6_copy_k116 M L x1 x2 x3 x4 x5 ((0 : Int32)))
def F_X6_copy (M : Mi) (L : Ml) (x1 : Int32) (x2 : Int32) (x3 : Int32) (x4 : Int32) (x5 : Int32) : Option (Int32 × Mi × Ml) :=
  ((F_X6_isSheet x1).bind fun v1 =>
  (if v1 = 0 then (some ((-2 : Int32), M, L)) else
 ((F_X6_isSheet x3).bind fun v8 =>
   (if v8 = 0 then (some ((-2 : Int32), M, L)) else
  (if ix x1 4 = true then
    (if (M 7 (Int32.toNatClampNeg x1)) = 0 then (some ((-11 : Int32), M, L)) else
   (if ix x3 4 = true then
     (if (M 7 (Int32.toNatClampNeg x3)) = 0 then (some ((-11 : Int32), M, L)) else
    (if ix x1 4 = true then
      (if ix x3 4 = true then
      (if (M 8 (Int32.toNatClampNeg x1)) = (M 8 (Int32.toNatClampNeg x3)) then (if x5 < 0 then (some ((-12 : Int32), M, L)) else
      (if x2 < 0 then (some ((-12 : Int32), M, L)) else
       (if x4 < 0 then (some ((-12 : Int32), M, L)) else
        (if ix x1 4 = true then
          (if ((M 9 (Int32.toNatClampNeg x1)) - x5) < x2 then (some ((-12 : Int32), M, L)) else
         (if ix x3 4 = true then
           (if x4 ≤ ((M 9 (Int32.toNatClampNeg x3)) - x5) then (if x1 = x3 then (if x4 ≤ x2 then (F_X6_copy_k115 M L x1 x2 x3 x4 x5) else
            (F_X6_copy_k116 M L x1 x2 x3 x4 x5 ((1 : Int32)))) else
           (F_X6_copy_k115 M L x1 x2 x3 x4 x5)) else
          (some ((-12 : Int32), M, L))) else none)) else none)))) else
     (some ((-13 : Int32), M, L))) else none) else none)) else none)) else none)))))
def F_X6_suits_k158 (kf75 : Mi → Ml → Int32 → Int32 → Int32 → Int32 → Int32 → Option (Int32 × Mi × Ml)) (M : Mi) (L : Ml) (x1 : Int32) (x3 : Int32) (x4 : Int32) (x6 : Int32) (s0 : Int32) (s1 : Int32) : Option (Int32 × Mi × Ml) :=
  (kf75 M L x1 x3 x4 ((s0 + s1)) ((x6 + (1 : Int32))))
def F_X6_suits_k75 : Nat → Mi → Ml → Int32 → Int32 → Int32 → Int32 → Int32 → Option (Int32 × Mi × Ml)
  | 0, _, _, _, _, _, _, _ => none
  | n + 1, M, L, x1, x3, x4, x5, x6 =>
  (if x4 ≤ x6 then (some (x5, M, L)) else
 (if x3 < 0 then (some ((-12 : Int32), M, L)) else
  (if ix x1 4 = true then
    (if x3 ≤ (((M 9 (Int32.toNatClampNeg x1)) - ((3 : Int32) * x6)) - (3 : Int32)) then ((some ((((40 : Int32) * x1) + x3) + ((3 : Int32) * x6))).bind fun z117 =>
     (if ix z117 160 = true then
     (if ix (z117 + (1 : Int32)) 160 = true then
     (if ix (z117 + (2 : Int32)) 160 = true then
     ((F_X6_party M L (M 10 (Int32.toNatClampNeg z117)) (M 10 (Int32.toNatClampNeg (z117 + (1 : Int32)))) (M 10 (Int32.toNatClampNeg (z117 + (2 : Int32))))).bind fun r147 =>
     (if r147.1 < 0 then (F_X6_suits_k158 (F_X6_suits_k75 n) r147.2.1 r147.2.2 x1 x3 x4 x6 x5 ((0 : Int32))) else
    (F_X6_suits_k158 (F_X6_suits_k75 n) r147.2.1 r147.2.2 x1 x3 x4 x6 x5 ((1 : Int32))))) else none) else none) else none)) else
   (some ((-12 : Int32), M, L))) else none)))
def F_X6_suits_k57 (M : Mi) (L : Ml) (x1 : Int32) (x3 : Int32) (x4 : Int32) : Option (Int32 × Mi × Ml) :=
  (if ix x1 4 = true then
  (if (M 7 (Int32.toNatClampNeg x1)) = 0 then (some ((-11 : Int32), M, L)) else
 (F_X6_suits_k75 FU M L x1 x3 x4 ((0 : Int32)) ((0 : Int32)))) else none)
def F_X6_suits (M : Mi) (L : Ml) (x1 : Int32) (x2 : Int32) (x3 : Int32) (x4 : Int32) : Option (Int32 × Mi × Ml) :=
  ((F_X6_isSheet x1).bind fun v1 =>
  (if v1 = 0 then (some ((-2 : Int32), M, L)) else
 ((F_X6_in (Int32.toInt64 x2) (0 : Int64) (2 : Int64)).bind fun v13 =>
   (if v13 = 0 then (some ((-2 : Int32), M, L)) else
  ((F_X6_in (Int32.toInt64 x4) (0 : Int64) (5 : Int64)).bind fun v26 =>
    (if v26 = 0 then (some ((-2 : Int32), M, L)) else
   (if ix x1 4 = true then
     (if (M 7 (Int32.toNatClampNeg x1)) = 0 then (F_X6_suits_k57 M L x1 x3 x4) else
    (if ix x1 4 = true then
      (if (M 8 (Int32.toNatClampNeg x1)) = x2 then (F_X6_suits_k57 M L x1 x3 x4) else
     (some ((-13 : Int32), M, L))) else none)) else none)))))))
def F_X6_over (x0 : Int32) : Option (Int32) :=
  (if x0 = 0 then (some (-1 : Int32)) else
 (if x0 = (3 : Int32) then (some (1 : Int32)) else
  (if x0 = (4 : Int32) then (some (2 : Int32)) else
   (some (0 : Int32)))))
def F_X6_taken_k55 (M : Mi) (L : Ml) (x1 : Int32) (x2 : Int32) (x3 : Int32) : Option (Int32) :=
  (if x3 = x2 then (if ix ((4 : Int32) * x1) 20 = true then
   (some (M 4 (Int32.toNatClampNeg ((4 : Int32) * x1)))) else none) else
 (some (-13 : Int32)))
def F_X6_taken_k37 (M : Mi) (L : Ml) : Nat → Int32 → Int32 → Int32 → Option (Int32)
  | 0, _, _, _ => none
  | n + 1, x1, x2, x3 =>
  (if x3 = (-1 : Int32) then (F_X6_taken_k55 M L x1 x2 x3) else
 (if x3 = x2 then (F_X6_taken_k55 M L x1 x2 x3) else
  ((F_X6_over x3).bind fun v48 =>
    (F_X6_taken_k37 M L n x1 x2 v48))))
def F_X6_taken (M : Mi) (L : Ml) (x1 : Int32) (x2 : Int32) : Option (Int32) :=
  ((F_X6_in (Int32.toInt64 x2) (0 : Int64) (5 : Int64)).bind fun v6 =>
  (if v6 = 0 then (some (-2 : Int32)) else
 ((F_X6_isOne M L x1).bind fun v17 =>
   (if v17 = 0 then (some (-11 : Int32)) else
  (if ix (((4 : Int32) * x1) + (3 : Int32)) 20 = true then
    ((some (M 4 (Int32.toNatClampNeg (((4 : Int32) * x1) + (3 : Int32))))).bind fun z36 =>
    (F_X6_taken_k37 M L FU x1 x2 z36)) else none)))))
def F_X2_clear (M : Mi) (L : Ml) : Option (Mi × Ml) :=
  (some ((up2 M 24 2 (0 : Int32)), L))
def F_X2_isDigit (x0 : Int32) : Option (Int32) :=
  (if x0 < (48 : Int32) then (rz (0 : Int32)) else
 (if (57 : Int32) < x0 then (rz (0 : Int32)) else
  (rz (1 : Int32))))
def F_X2_isLetter (x0 : Int32) : Option (Int32) :=
  (if x0 < (97 : Int32) then (rz (0 : Int32)) else
 (if (122 : Int32) < x0 then (rz (0 : Int32)) else
  (rz (1 : Int32))))
def F_X2_isSign_k48 : Option (Int32) :=
  (rz (1 : Int32))
def F_X2_isSign (x0 : Int32) : Option (Int32) :=
  (if x0 = (40 : Int32) then (F_X2_isSign_k48) else
 (if x0 = (41 : Int32) then (F_X2_isSign_k48) else
  (if x0 = (59 : Int32) then (F_X2_isSign_k48) else
   (if x0 = (43 : Int32) then (F_X2_isSign_k48) else
    (if x0 = (45 : Int32) then (F_X2_isSign_k48) else
     (if x0 = (42 : Int32) then (F_X2_isSign_k48) else
      (if x0 = (60 : Int32) then (F_X2_isSign_k48) else
       (if x0 = (61 : Int32) then (F_X2_isSign_k48) else
        (rz (0 : Int32))))))))))
def F_X2_readDigits_k68 (M : Mi) (L : Ml) : Option (Mi × Ml) :=
  (if (4 : Int32) < ((M 24 6) - (M 24 5)) then (some ((up2 M 24 4 (258 : Int32)), L)) else
 (some ((up2 M 24 4 (257 : Int32)), L)))
def F_X2_readDigits_k5 : Nat → Mi → Ml → Option (Mi × Ml)
  | 0, _, _ => none
  | n + 1, M, L =>
  (if (M 24 2) ≤ (M 24 6) then (F_X2_readDigits_k68 M L) else
 (if ix (M 24 6) 160 = true then
   ((F_X2_isDigit (M 25 (Int32.toNatClampNeg (M 24 6)))).bind fun v25 =>
   (if v25 = 0 then (F_X2_readDigits_k68 M L) else
  (if ix (M 24 6) 160 = true then
    (F_X2_readDigits_k5 n ((up2 (up2 M 24 7 ((((10 : Int32) * (M 24 7)) + (M 25 (Int32.toNatClampNeg (M 24 6)))) - (48 : Int32))) 24 6 (((up2 M 24 7 ((((10 : Int32) * (M 24 7)) + (M 25 (Int32.toNatClampNeg (M 24 6)))) - (48 : Int32))) 24 6) + (1 : Int32)))) L) else none))) else none))
def F_X2_readDigits (M : Mi) (L : Ml) : Option (Mi × Ml) :=
  (F_X2_readDigits_k5 FU ((up2 M 24 7 (0 : Int32))) L)
def F_X2_spells_k20 (w1 : Nat) (M : Mi) (L : Ml) : Nat → Int32 → Option (Int32)
  | 0, _ => none
  | n + 1, x2 =>
  (if (nI (jL.getD w1 0)) ≤ x2 then (rz (1 : Int32)) else
 (if ix ((M 24 5) + x2) 160 = true then
   (if ix x2 (jL.getD w1 0) = true then
   (if (M 25 (Int32.toNatClampNeg ((M 24 5) + x2))) = ((jB.getD w1 []).getD (Int32.toNatClampNeg x2) 0) then (F_X2_spells_k20 w1 M L n ((x2 + (1 : Int32)))) else
  (rz (0 : Int32))) else none) else none))
def F_X2_spells (w1 : Nat) (M : Mi) (L : Ml) : Option (Int32) :=
  (if ((M 24 6) - (M 24 5)) = (nI (jL.getD w1 0)) then (F_X2_spells_k20 w1 M L FU ((0 : Int32))) else
 (rz (0 : Int32)))
def F_X2_wordRead (M : Mi) (L : Ml) : Option (Int32) :=
  ((F_X2_spells 1 M L).bind fun v3 =>
  (if v3 = 0 then ((F_X2_spells 2 M L).bind fun v16 =>
   (if v16 = 0 then ((F_X2_spells 3 M L).bind fun v30 =>
    (if v30 = 0 then ((F_X2_spells 4 M L).bind fun v44 =>
     (if v44 = 0 then ((F_X2_spells 5 M L).bind fun v58 =>
      (if v58 = 0 then ((F_X2_spells 6 M L).bind fun v72 =>
       (if v72 = 0 then ((F_X2_spells 7 M L).bind fun v86 =>
        (if v86 = 0 then ((F_X2_spells 8 M L).bind fun v101 =>
         (if v101 = 0 then ((F_X2_spells 9 M L).bind fun v116 =>
          (if v116 = 0 then ((F_X2_spells 10 M L).bind fun v131 =>
           (if v131 = 0 then ((F_X2_spells 11 M L).bind fun v146 =>
            (if v146 = 0 then ((F_X2_spells 12 M L).bind fun v161 =>
             (if v161 = 0 then (some (258 : Int32)) else
            (some (264 : Int32)))) else
           (some (263 : Int32)))) else
          (some (262 : Int32)))) else
         (some (261 : Int32)))) else
        (some (260 : Int32)))) else
       (some (259 : Int32)))) else
      (some (-6 : Int32)))) else
     (some (-5 : Int32)))) else
    (some (-4 : Int32)))) else
   (some (-3 : Int32)))) else
  (some (-2 : Int32)))) else
 (some (-1 : Int32))))
def F_X2_advance_k199 (M : Mi) (L : Ml) (s1 : Int32) : Option (Mi × Ml) :=
  (some ((up2 (up2 M 24 4 s1) 24 6 (((up2 M 24 4 s1) 24 6) + (1 : Int32))), L))
def F_X2_advance_k135 (M : Mi) (L : Ml) : Option (Mi × Ml) :=
  ((F_X2_wordRead M L).bind fun v137 =>
  (some ((up2 M 24 4 v137), L)))
def F_X2_advance_k96 : Nat → Mi → Ml → Option (Mi × Ml)
  | 0, _, _ => none
  | n + 1, M, L =>
  (if (M 24 2) ≤ (M 24 6) then (F_X2_advance_k135 M L) else
 (if ix (M 24 6) 160 = true then
   ((F_X2_isLetter (M 25 (Int32.toNatClampNeg (M 24 6)))).bind fun v116 =>
   (if v116 = 0 then (F_X2_advance_k135 M L) else
  (F_X2_advance_k96 n ((up2 M 24 6 ((M 24 6) + (1 : Int32)))) L))) else none))
def F_X2_advance_k52 (M : Mi) (L : Ml) : Option (Mi × Ml) :=
  (if ((up2 M 24 5 (M 24 6)) 24 6) < ((up2 M 24 5 (M 24 6)) 24 2) then (if ix ((up2 M 24 5 (M 24 6)) 24 6) 160 = true then
   ((F_X2_isLetter ((up2 M 24 5 (M 24 6)) 25 (Int32.toNatClampNeg ((up2 M 24 5 (M 24 6)) 24 6)))).bind fun v90 =>
   (if v90 = 0 then (if ix ((up2 M 24 5 (M 24 6)) 24 6) 160 = true then
    ((F_X2_isDigit ((up2 M 24 5 (M 24 6)) 25 (Int32.toNatClampNeg ((up2 M 24 5 (M 24 6)) 24 6)))).bind fun v155 =>
    (if v155 = 0 then (if ix ((up2 M 24 5 (M 24 6)) 24 6) 160 = true then
     ((F_X2_isSign ((up2 M 24 5 (M 24 6)) 25 (Int32.toNatClampNeg ((up2 M 24 5 (M 24 6)) 24 6)))).bind fun v178 =>
     (if v178 = 0 then (F_X2_advance_k199 ((up2 M 24 5 (M 24 6))) L ((258 : Int32))) else
    (if ix ((up2 M 24 5 (M 24 6)) 24 6) 160 = true then
      (F_X2_advance_k199 ((up2 M 24 5 (M 24 6))) L (((up2 M 24 5 (M 24 6)) 25 (Int32.toNatClampNeg ((up2 M 24 5 (M 24 6)) 24 6))))) else none))) else none) else
   ((F_X2_readDigits (up2 M 24 5 (M 24 6)) L).bind fun r162 =>
     (some (r162.1, r162.2))))) else none) else
  (F_X2_advance_k96 FU ((up2 M 24 5 (M 24 6))) L))) else none) else
 (some ((up2 (up2 M 24 5 (M 24 6)) 24 4 (256 : Int32)), L)))
def F_X2_advance_k39 (kf0 : Mi → Ml → Option (Mi × Ml)) (M : Mi) (L : Ml) : Option (Mi × Ml) :=
  (kf0 ((up2 M 24 6 ((M 24 6) + (1 : Int32)))) L)
def F_X2_advance_k0 : Nat → Mi → Ml → Option (Mi × Ml)
  | 0, _, _ => none
  | n + 1, M, L =>
  (if (M 24 2) ≤ (M 24 6) then (F_X2_advance_k52 M L) else
 (if ix (M 24 6) 160 = true then
   (if (M 25 (Int32.toNatClampNeg (M 24 6))) = (32 : Int32) then (F_X2_advance_k39 (F_X2_advance_k0 n) M L) else
  (if ix (M 24 6) 160 = true then
    (if (M 25 (Int32.toNatClampNeg (M 24 6))) = (10 : Int32) then (F_X2_advance_k39 (F_X2_advance_k0 n) M L) else
   (F_X2_advance_k52 M L)) else none)) else none))
def F_X2_advance (M : Mi) (L : Ml) : Option (Mi × Ml) :=
  (F_X2_advance_k0 FU M L)
def F_X2_refuse (M : Mi) (L : Ml) : Option (Mi × Ml) :=
  (if (M 24 3) = (-1 : Int32) then (some ((up2 (up2 M 24 3 (M 24 5)) 24 4 (258 : Int32)), L)) else
 (some ((up2 M 24 4 (258 : Int32)), L)))
def F_X2_need (M : Mi) (L : Ml) (x1 : Int32) : Option (Mi × Ml) :=
  (if (M 24 4) = x1 then ((F_X2_advance M L).bind fun r9 =>
   (some (r9.1, r9.2))) else
 ((F_X2_refuse M L).bind fun r16 =>
   (some (r16.1, r16.2))))
def F_X2_write (M : Mi) (L : Ml) (x1 : Int32) : Option (Mi × Ml) :=
  (if (160 : Int32) ≤ (M 24 8) then (some (M, L)) else
 (if ix (M 24 8) 160 = true then
   (some ((up2 (up2 M 26 (Int32.toNatClampNeg (M 24 8)) x1) 24 8 (((up2 M 26 (Int32.toNatClampNeg (M 24 8)) x1) 24 8) + (1 : Int32))), L)) else none))
def F_X2_readE_k7 (rec : Nat → Mi → Ml → Int32 → Option (Mi × Ml)) : Nat → Mi → Ml → Int32 → Int32 → Option (Mi × Ml)
  | 0, _, _, _, _ => none
  | n + 1, M, L, x1, x2 =>
  (if (160 : Int32) ≤ x2 then (some (M, L)) else
 (if (M 24 4) = (262 : Int32) then ((F_X2_advance M L).bind fun r25 =>
    ((rec 1 r25.1 r25.2 x1).bind fun r30 =>
    ((F_X2_write r30.1 r30.2 (-9 : Int32)).bind fun r36 =>
    (F_X2_readE_k7 rec n r36.1 r36.2 x1 ((x2 + (1 : Int32))))))) else
  (some (M, L))))
def F_X2_readE (rec : Nat → Mi → Ml → Int32 → Option (Mi × Ml)) (M : Mi) (L : Ml) (x1 : Int32) : Option (Mi × Ml) :=
  ((rec 1 M L x1).bind fun r2 =>
  (F_X2_readE_k7 rec FU r2.1 r2.2 x1 ((0 : Int32))))
def F_X2_readAnd_k7 (rec : Nat → Mi → Ml → Int32 → Option (Mi × Ml)) : Nat → Mi → Ml → Int32 → Int32 → Option (Mi × Ml)
  | 0, _, _, _, _ => none
  | n + 1, M, L, x1, x2 =>
  (if (160 : Int32) ≤ x2 then (some (M, L)) else
 (if (M 24 4) = (263 : Int32) then ((F_X2_advance M L).bind fun r25 =>
    ((rec 2 r25.1 r25.2 x1).bind fun r30 =>
    ((F_X2_write r30.1 r30.2 (-10 : Int32)).bind fun r36 =>
    (F_X2_readAnd_k7 rec n r36.1 r36.2 x1 ((x2 + (1 : Int32))))))) else
  (some (M, L))))
def F_X2_readAnd (rec : Nat → Mi → Ml → Int32 → Option (Mi × Ml)) (M : Mi) (L : Ml) (x1 : Int32) : Option (Mi × Ml) :=
  ((rec 2 M L x1).bind fun r2 =>
  (F_X2_readAnd_k7 rec FU r2.1 r2.2 x1 ((0 : Int32))))
def F_X2_readNot_k72 (rec : Nat → Mi → Ml → Int32 → Option (Mi × Ml)) (M : Mi) (L : Ml) (x1 : Int32) (s0 : Int32) : Option (Mi × Ml) :=
  ((F_X2_advance M L).bind fun r74 =>
  ((rec 3 r74.1 r74.2 x1).bind fun r79 =>
  ((F_X2_write r79.1 r79.2 s0).bind fun r84 =>
  (some (r84.1, r84.2)))))
def F_X2_readNot_k56 (rec : Nat → Mi → Ml → Int32 → Option (Mi × Ml)) (M : Mi) (L : Ml) (x1 : Int32) : Option (Mi × Ml) :=
  (if (M 24 4) = (60 : Int32) then (F_X2_readNot_k72 rec M L x1 ((-11 : Int32))) else
 (F_X2_readNot_k72 rec M L x1 ((-12 : Int32))))
def F_X2_readNot_k33 (rec : Nat → Mi → Ml → Int32 → Option (Mi × Ml)) (M : Mi) (L : Ml) (x1 : Int32) : Option (Mi × Ml) :=
  ((rec 3 M L x1).bind fun r35 =>
  (if (r35.1 24 4) = (60 : Int32) then (F_X2_readNot_k56 rec r35.1 r35.2 x1) else
 (if (r35.1 24 4) = (61 : Int32) then (F_X2_readNot_k56 rec r35.1 r35.2 x1) else
  (some (r35.1, r35.2)))))
def F_X2_readNot (rec : Nat → Mi → Ml → Int32 → Option (Mi × Ml)) (M : Mi) (L : Ml) (x1 : Int32) : Option (Mi × Ml) :=
  (if (M 24 4) = (264 : Int32) then (if (5 : Int32) ≤ x1 then (F_X2_readNot_k33 rec M L x1) else
  ((F_X2_advance M L).bind fun r16 =>
    ((rec 2 r16.1 r16.2 (x1 + (1 : Int32))).bind fun r23 =>
    ((F_X2_write r23.1 r23.2 (-7 : Int32)).bind fun r29 =>
    (some (r29.1, r29.2)))))) else
 (F_X2_readNot_k33 rec M L x1))
def F_X2_readSum_k48 (rec : Nat → Mi → Ml → Int32 → Option (Mi × Ml)) (kf7 : Mi → Ml → Int32 → Int32 → Option (Mi × Ml)) (M : Mi) (L : Ml) (x1 : Int32) (x2 : Int32) (s0 : Int32) : Option (Mi × Ml) :=
  ((F_X2_advance M L).bind fun r50 =>
  ((rec 4 r50.1 r50.2 x1).bind fun r55 =>
  ((F_X2_write r55.1 r55.2 s0).bind fun r60 =>
  (kf7 r60.1 r60.2 x1 ((x2 + (1 : Int32)))))))
def F_X2_readSum_k32 (rec : Nat → Mi → Ml → Int32 → Option (Mi × Ml)) (kf7 : Mi → Ml → Int32 → Int32 → Option (Mi × Ml)) (M : Mi) (L : Ml) (x1 : Int32) (x2 : Int32) : Option (Mi × Ml) :=
  (if (M 24 4) = (43 : Int32) then (F_X2_readSum_k48 rec kf7 M L x1 x2 ((-13 : Int32))) else
 (F_X2_readSum_k48 rec kf7 M L x1 x2 ((-14 : Int32))))
def F_X2_readSum_k7 (rec : Nat → Mi → Ml → Int32 → Option (Mi × Ml)) : Nat → Mi → Ml → Int32 → Int32 → Option (Mi × Ml)
  | 0, _, _, _, _ => none
  | n + 1, M, L, x1, x2 =>
  (if (160 : Int32) ≤ x2 then (some (M, L)) else
 (if (M 24 4) = (43 : Int32) then (F_X2_readSum_k32 rec (F_X2_readSum_k7 rec n) M L x1 x2) else
  (if (M 24 4) = (45 : Int32) then (F_X2_readSum_k32 rec (F_X2_readSum_k7 rec n) M L x1 x2) else
   (some (M, L)))))
def F_X2_readSum (rec : Nat → Mi → Ml → Int32 → Option (Mi × Ml)) (M : Mi) (L : Ml) (x1 : Int32) : Option (Mi × Ml) :=
  ((rec 4 M L x1).bind fun r2 =>
  (F_X2_readSum_k7 rec FU r2.1 r2.2 x1 ((0 : Int32))))
def F_X2_readTerm_k7 (rec : Nat → Mi → Ml → Int32 → Option (Mi × Ml)) : Nat → Mi → Ml → Int32 → Int32 → Option (Mi × Ml)
  | 0, _, _, _, _ => none
  | n + 1, M, L, x1, x2 =>
  (if (160 : Int32) ≤ x2 then (some (M, L)) else
 (if (M 24 4) = (42 : Int32) then ((F_X2_advance M L).bind fun r24 =>
    ((rec 5 r24.1 r24.2 x1).bind fun r29 =>
    ((F_X2_write r29.1 r29.2 (-15 : Int32)).bind fun r35 =>
    (F_X2_readTerm_k7 rec n r35.1 r35.2 x1 ((x2 + (1 : Int32))))))) else
  (some (M, L))))
def F_X2_readTerm (rec : Nat → Mi → Ml → Int32 → Option (Mi × Ml)) (M : Mi) (L : Ml) (x1 : Int32) : Option (Mi × Ml) :=
  ((rec 5 M L x1).bind fun r2 =>
  (F_X2_readTerm_k7 rec FU r2.1 r2.2 x1 ((0 : Int32))))
def F_X2_readOne_k129 (rec : Nat → Mi → Ml → Int32 → Option (Mi × Ml)) (M : Mi) (L : Ml) : Option (Mi × Ml) :=
  ((F_X2_refuse M L).bind fun r130 =>
  (some (r130.1, r130.2)))
def F_X2_readOne_k81 (rec : Nat → Mi → Ml → Int32 → Option (Mi × Ml)) (M : Mi) (L : Ml) (x1 : Int32) : Option (Mi × Ml) :=
  (if (M 24 4) = (40 : Int32) then (if (5 : Int32) ≤ x1 then (F_X2_readOne_k129 rec M L) else
  ((F_X2_advance M L).bind fun r96 =>
    ((rec 0 r96.1 r96.2 (x1 + (1 : Int32))).bind fun r103 =>
    (if (r103.1 24 4) = (41 : Int32) then ((F_X2_advance r103.1 r103.2).bind fun r116 =>
     (some (r116.1, r116.2))) else
   ((F_X2_refuse r103.1 r103.2).bind fun r123 =>
     (some (r123.1, r123.2))))))) else
 (F_X2_readOne_k129 rec M L))
def F_X2_readOne (rec : Nat → Mi → Ml → Int32 → Option (Mi × Ml)) (M : Mi) (L : Ml) (x1 : Int32) : Option (Mi × Ml) :=
  (if (M 24 4) = (257 : Int32) then ((F_X2_write M L (M 24 7)).bind fun r15 =>
   ((F_X2_advance r15.1 r15.2).bind fun r19 =>
   (some (r19.1, r19.2)))) else
 (if 0 ≤ (M 24 4) then (if (M 24 4) = (45 : Int32) then (if (5 : Int32) ≤ x1 then (F_X2_readOne_k81 rec M L x1) else
    ((F_X2_advance M L).bind fun r62 =>
      ((rec 5 r62.1 r62.2 (x1 + (1 : Int32))).bind fun r69 =>
      ((F_X2_write r69.1 r69.2 (-8 : Int32)).bind fun r75 =>
      (some (r75.1, r75.2)))))) else
   (F_X2_readOne_k81 rec M L x1)) else
  ((F_X2_write M L (M 24 4)).bind fun r37 =>
    ((F_X2_advance r37.1 r37.2).bind fun r41 =>
    (some (r41.1, r41.2))))))
def FD : Nat := 40
def F_RD : Nat → Nat → Mi → Ml → Int32 → Option (Mi × Ml)
  | 0, _, _, _, _ => none
  | d + 1, w, M, L, x => match w with
    | 0 => F_X2_readE (F_RD d) M L x
    | 1 => F_X2_readAnd (F_RD d) M L x
    | 2 => F_X2_readNot (F_RD d) M L x
    | 3 => F_X2_readSum (F_RD d) M L x
    | 4 => F_X2_readTerm (F_RD d) M L x
    | _ => F_X2_readOne (F_RD d) M L x
def F_X2_readPart (M : Mi) (L : Ml) (x1 : Int32) : Option (Int32 × Mi × Ml) :=
  ((F_X2_need M L x1).bind fun r2 =>
  ((F_RD FD 0 r2.1 r2.2 (0 : Int32)).bind fun r7 =>
  ((F_X2_need r7.1 r7.2 (59 : Int32)).bind fun r13 =>
  (some ((r13.1 24 8), r13.1, r13.2)))))
