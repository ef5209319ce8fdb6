def fXX8_prepare_16_46 (nb : Nat) (k2 : (Int32 × Int32 × Int32 × XS) → Option XS) (x1 : Int32) (x2 : Int32) (x3 : Int32) (σ : XS) : Option XS :=
k2 (x1, x2, (x3 + (1 : Int32)), σ)
def fXX8_prepare_16_2 (nb : Nat) (k2 : (Int32 × Int32 × Int32 × XS) → Option XS) (x1 : Int32) (x2 : Int32) (x3 : Int32) (σ : XS) : Option XS :=
if (4 : Int32) ≤ x3 then
  some σ
else
  if (((4 : Int32) * x1) + x3) < 0 then
    fXX8_prepare_16_46 nb k2 x1 x2 x3 σ
  else
    if (Int32.ofNat 20) ≤ (((4 : Int32) * x1) + x3) then
      fXX8_prepare_16_46 nb k2 x1 x2 x3 σ
    else
      if (((4 : Int32) * x1) + x3) < 0 ∨ 20 ≤ (((4 : Int32) * x1) + x3).toNatClampNeg then none else
      fXX8_prepare_16_46 nb k2 x1 x2 x3 (stA σ 7 (((4 : Int32) * x1) + x3).toNatClampNeg (vp_nar .byte ((x2 >>> (((24 : Int32) - ((8 : Int32) * x3)) &&& 31)).toInt8.toInt32)))
def fXX8_prepare_16_0 (nb : Nat) (x1 : Int32) (x2 : Int32) (σ : XS) : Option XS :=
lfix (fun k2 t => fXX8_prepare_16_2 nb k2 t.1 t.2.1 t.2.2.1 t.2.2.2) FU (x1, x2, (0 : Int32), σ)
def fXX8_prepare_16 (nb : Nat) (x1 : Int32) (x2 : Int32) (σ : XS) : Option XS := fXX8_prepare_16_0 nb x1 x2 σ
def fXX0_feed_0_0 (nb : Nat) (x1 : Int32) (x2 : Int32) (x3 : Int32) (x4 : Int32) (x5 : Int32) (σ : XS) : Option XS :=
(fXX8_prepare_16 nb (0 : Int32) x1 σ).bind fun o1 =>
(fXX8_prepare_16 nb (1 : Int32) x2 o1).bind fun o4 =>
(fXX8_prepare_16 nb (2 : Int32) x3 o4).bind fun o7 =>
(fXX8_prepare_16 nb (3 : Int32) x4 o7).bind fun o10 =>
(fXX8_prepare_16 nb (4 : Int32) x5 o10).bind fun o13 =>
some o13
def fXX0_feed_0 (nb : Nat) (x1 : Int32) (x2 : Int32) (x3 : Int32) (x4 : Int32) (x5 : Int32) (σ : XS) : Option XS := fXX0_feed_0_0 nb x1 x2 x3 x4 x5 σ
def fXJ2_fill_18_5 (nb : Nat) (k5 : (Int32 × Int32 × Int32 × XS) → Option XS) (x1 : Int32) (x2 : Int32) (x3 : Int32) (σ : XS) : Option XS :=
if x3 ≤ x2 then
  some σ
else
  if x2 < 0 ∨ 20 ≤ x2.toNatClampNeg then none else
  k5 (x1, (x2 + (1 : Int32)), x3, (stA σ 7 x2.toNatClampNeg (vp_nar .byte x1)))
def fXJ2_fill_18_0 (nb : Nat) (x1 : Int32) (σ : XS) : Option XS :=
lfix (fun k5 t => fXJ2_fill_18_5 nb k5 t.1 t.2.1 t.2.2.1 t.2.2.2) FU (x1, (0 : Int32), (Int32.ofNat 20), σ)
def fXJ2_fill_18 (nb : Nat) (x1 : Int32) (σ : XS) : Option XS := fXJ2_fill_18_0 nb x1 σ
def fXX8_bring_16_0 (nb : Nat) (x1 : Int32) (σ : XS) : Option (Int32 × XS) :=
if x1 < 0 then
  some ((-1 : Int32), σ)
else
  if (Int32.ofNat 20) < x1 then
    some ((-1 : Int32), σ)
  else
    if x1 ≤ ((Int32.ofNat 4096) - (σ.1 8)) then
      if (0 : Int32) < 0 ∨ (σ.1 8) < 0 ∨ x1 < 0 ∨ 20 < (0 : Int32).toNatClampNeg + x1.toNatClampNeg ∨ 4096 < (σ.1 8).toNatClampNeg + x1.toNatClampNeg then none else
      if ∀ i, i < x1.toNatClampNeg → fits .byte (.int ((σ.2.1 7) ((0 : Int32).toNatClampNeg + i))) = true then
        (fXJ2_fill_18 nb (0 : Int32) (stC σ 7 6 (0 : Int32).toNatClampNeg (σ.1 8).toNatClampNeg x1.toNatClampNeg)).bind fun o6 =>
        some (((o6.1 8) + x1), (stS o6 8 ((o6.1 8) + x1)))
      else none
    else
      some ((-1 : Int32), σ)
def fXX8_bring_16 (nb : Nat) (x1 : Int32) (σ : XS) : Option (Int32 × XS) := fXX8_bring_16_0 nb x1 σ
def fXX0_end_0_0 (nb : Nat) (x1 : Int32) (σ : XS) : Option (Int32 × XS) :=
(fXX8_bring_16 nb x1 σ).bind fun o1 =>
some (o1.1, o1.2)
def fXX0_end_0 (nb : Nat) (x1 : Int32) (σ : XS) : Option (Int32 × XS) := fXX0_end_0_0 nb x1 σ
def fXX2_choose_3_84 (nb : Nat) (x1 : Int32) (x4 : Int32) (x5 : Int32) (σ : XS) : Option (Int32 × XS) :=
if (((4 : Int32) + x5) + (8 : Int32)) ≤ (((Int32.ofNat nb) - (1 : Int32)) - ((x4 - (1 : Int32)) * x1)) then
  some ((1 : Int32), (stS (stS (stS σ 2 x1) 3 x4) 4 ((8 : Int32) * x5)))
else
  some ((0 : Int32), σ)
def fXX2_choose_3_25 (nb : Nat) (x1 : Int32) (x2 : Int32) (y0 : Int32) (σ : XS) : Option (Int32 × XS) :=
if y0 = 0 then
  some ((0 : Int32), σ)
else
  if x2 < (12 : Int32) then
    some ((0 : Int32), σ)
  else
    if x2 ≤ (2000 : Int32) then
      if x1 = 0 then none else
      if (1 : Int32) ≤ (((((Int32.ofNat nb) - (1 : Int32)) + x1) - (1 : Int32)) / x1) then
        if ((8 : Int32) * (((((Int32.ofNat nb) - (1 : Int32)) + x1) - (1 : Int32)) / x1)) = 0 then none else
        fXX2_choose_3_84 nb x1 (((((Int32.ofNat nb) - (1 : Int32)) + x1) - (1 : Int32)) / x1) (((x2 + ((8 : Int32) * (((((Int32.ofNat nb) - (1 : Int32)) + x1) - (1 : Int32)) / x1))) - (1 : Int32)) / ((8 : Int32) * (((((Int32.ofNat nb) - (1 : Int32)) + x1) - (1 : Int32)) / x1))) σ
      else
        some ((0 : Int32), σ)
    else
      some ((0 : Int32), σ)
def fXX2_choose_3_20 (nb : Nat) (x1 : Int32) (x2 : Int32) (σ : XS) : Option (Int32 × XS) :=
fXX2_choose_3_25 nb x1 x2 (1 : Int32) σ
def fXX2_choose_3_0 (nb : Nat) (x1 : Int32) (x2 : Int32) (σ : XS) : Option (Int32 × XS) :=
if x1 = (64 : Int32) then
  fXX2_choose_3_20 nb x1 x2 σ
else
  if x1 = (128 : Int32) then
    fXX2_choose_3_20 nb x1 x2 σ
  else
    if x1 = (256 : Int32) then
      fXX2_choose_3_20 nb x1 x2 σ
    else
      fXX2_choose_3_25 nb x1 x2 (0 : Int32) σ
def fXX2_choose_3 (nb : Nat) (x1 : Int32) (x2 : Int32) (σ : XS) : Option (Int32 × XS) := fXX2_choose_3_0 nb x1 x2 σ
def fXX1_length_1_0 (nb : Nat) (σ : XS) : Option (Int32 × XS) :=
some ((Int32.ofNat (nb * 1024)), σ)
def fXX1_length_1 (nb : Nat) (σ : XS) : Option (Int32 × XS) := fXX1_length_1_0 nb σ
def fXJ2_rangeCheck_0 (nb : Nat) (x0 : Int32) (x1 : Int32) (x2 : Int32) (σ : XS) : Option XS :=
if x1 ≤ x2 then
  if 0 ≤ x1 then
    if x2 ≤ x0 then
      some σ
    else
      none
  else
    none
else
  none
def fXJ2_rangeCheck (nb : Nat) (x0 : Int32) (x1 : Int32) (x2 : Int32) (σ : XS) : Option XS := fXJ2_rangeCheck_0 nb x0 x1 x2 σ
def fXJ2_fill___2_10 (nb : Nat) (k10 : (Int32 × Int32 × Int32 × XS) → Option XS) (x2 : Int32) (x3 : Int32) (x4 : Int32) (σ : XS) : Option XS :=
if x2 ≤ x4 then
  some σ
else
  if x4 < 0 ∨ (nb * 1024) ≤ x4.toNatClampNeg then none else
  k10 (x2, x3, (x4 + (1 : Int32)), (stA σ 0 x4.toNatClampNeg (vp_nar .byte x3)))
def fXJ2_fill___2_0 (nb : Nat) (x1 : Int32) (x2 : Int32) (x3 : Int32) (σ : XS) : Option XS :=
(fXJ2_rangeCheck nb (Int32.ofNat (nb * 1024)) x1 x2 σ).bind fun o1 =>
lfix (fun k10 t => fXJ2_fill___2_10 nb k10 t.1 t.2.1 t.2.2.1 t.2.2.2) FU (x2, x3, x1, o1)
def fXJ2_fill___2 (nb : Nat) (x1 : Int32) (x2 : Int32) (x3 : Int32) (σ : XS) : Option XS := fXJ2_fill___2_0 nb x1 x2 x3 σ
def fXX1_fill_1_0 (nb : Nat) (x1 : Int32) (x2 : Int32) (x3 : Int32) (σ : XS) : Option XS :=
if x1 < 0 then
  some σ
else
  if x2 < x1 then
    some σ
  else
    if (Int32.ofNat (nb * 1024)) < x2 then
      some σ
    else
      (fXJ2_fill___2 nb x1 x2 x3.toInt8.toInt32 σ).bind fun o4 =>
      some o4
def fXX1_fill_1 (nb : Nat) (x1 : Int32) (x2 : Int32) (x3 : Int32) (σ : XS) : Option XS := fXX1_fill_1_0 nb x1 x2 x3 σ
def fXX2_groupBlocks_3_0 (nb : Nat) (σ : XS) : Option (Int32 × XS) :=
some ((σ.1 2), σ)
def fXX2_groupBlocks_3 (nb : Nat) (σ : XS) : Option (Int32 × XS) := fXX2_groupBlocks_3_0 nb σ
def fXX2_fixedBlocks_3_0 (nb : Nat) (σ : XS) : Option (Int32 × XS) :=
some (((4 : Int32) + ((σ.1 4) / (8 : Int32))), σ)
def fXX2_fixedBlocks_3 (nb : Nat) (σ : XS) : Option (Int32 × XS) := fXX2_fixedBlocks_3_0 nb σ
def fXX2_groups_3_0 (nb : Nat) (σ : XS) : Option (Int32 × XS) :=
some ((σ.1 3), σ)
def fXX2_groups_3 (nb : Nat) (σ : XS) : Option (Int32 × XS) := fXX2_groups_3_0 nb σ
def fXX2_partAt_3_0 (nb : Nat) (x1 : Int32) (x2 : Int32) (σ : XS) : Option (Int32 × XS) :=
some (((((1 : Int32) + (x1 * (σ.1 2))) + x2) * (1024 : Int32)), σ)
def fXX2_partAt_3 (nb : Nat) (x1 : Int32) (x2 : Int32) (σ : XS) : Option (Int32 × XS) := fXX2_partAt_3_0 nb x1 x2 σ
def fXX2_firstBlock_3_0 (nb : Nat) (x1 : Int32) (σ : XS) : Option (Int32 × XS) :=
some (((1 : Int32) + (x1 * (σ.1 2))), σ)
def fXX2_firstBlock_3 (nb : Nat) (x1 : Int32) (σ : XS) : Option (Int32 × XS) := fXX2_firstBlock_3_0 nb x1 σ
def fXX2_blocksIn_3_0 (nb : Nat) (x1 : Int32) (σ : XS) : Option (Int32 × XS) :=
(fXX2_firstBlock_3 nb x1 σ).bind fun o1 =>
some ((if ((Int32.ofNat nb) - o1.1) < (σ.1 2) then ((Int32.ofNat nb) - o1.1) else (σ.1 2)), o1.2)
def fXX2_blocksIn_3 (nb : Nat) (x1 : Int32) (σ : XS) : Option (Int32 × XS) := fXX2_blocksIn_3_0 nb x1 σ
def fXX3_realIn_4_0 (nb : Nat) (x1 : Int32) (σ : XS) : Option (Int32 × XS) :=
(fXX2_blocksIn_3 nb x1 σ).bind fun o2 =>
some (o2.1, o2.2)
def fXX3_realIn_4 (nb : Nat) (x1 : Int32) (σ : XS) : Option (Int32 × XS) := fXX3_realIn_4_0 nb x1 σ
def fXX1_get_1_0 (nb : Nat) (x1 : Int32) (σ : XS) : Option (Int32 × XS) :=
if x1 < 0 then
  some ((0 : Int32), σ)
else
  if (Int32.ofNat (nb * 1024)) ≤ x1 then
    some ((0 : Int32), σ)
  else
    if x1 < 0 ∨ (nb * 1024) ≤ x1.toNatClampNeg then none else
    some (((σ.2.1 0 x1.toNatClampNeg) &&& (255 : Int32)), σ)
def fXX1_get_1 (nb : Nat) (x1 : Int32) (σ : XS) : Option (Int32 × XS) := fXX1_get_1_0 nb x1 σ
def fXX1_put_1_0 (nb : Nat) (x1 : Int32) (x2 : Int32) (σ : XS) : Option XS :=
if x1 < 0 then
  some σ
else
  if (Int32.ofNat (nb * 1024)) ≤ x1 then
    some σ
  else
    if x1 < 0 ∨ (nb * 1024) ≤ x1.toNatClampNeg then none else
    some (stA σ 0 x1.toNatClampNeg (vp_nar .byte x2.toInt8.toInt32))
def fXX1_put_1 (nb : Nat) (x1 : Int32) (x2 : Int32) (σ : XS) : Option XS := fXX1_put_1_0 nb x1 x2 σ
def fXX3_lay_4_94 (nb : Nat) (k51 : (Int32 × Int32 × XS) → Option XS) (k94 : (Int32 × Int32 × Int32 × Int32 × XS) → Option XS) (x1 : Int32) (x2 : Int32) (x3 : Int32) (x4 : Int32) (σ : XS) : Option XS :=
(fXX3_realIn_4 nb x2 σ).bind fun o19 =>
if o19.1 ≤ x4 then
  k51 (x1, (x2 + (1 : Int32)), o19.2)
else
  (fXX1_get_1 nb (x3 + (x4 / (8 : Int32))) o19.2).bind fun o23 =>
  (fXX1_put_1 nb (x3 + (x4 / (8 : Int32))) (o23.1 &&& (((1 : Int32) <<< ((x4 - x4 / (8 : Int32) * (8 : Int32)) &&& 31)) ^^^ (-1 : Int32))) o23.2).bind fun o26 =>
  k94 (x1, x2, x3, (x4 + (1 : Int32)), o26)
def fXX3_lay_4_51 (nb : Nat) (k51 : (Int32 × Int32 × XS) → Option XS) (x1 : Int32) (x2 : Int32) (σ : XS) : Option XS :=
(fXX2_groups_3 nb σ).bind fun o9 =>
if o9.1 ≤ x2 then
  some o9.2
else
  (fXX2_partAt_3 nb x2 (2 : Int32) o9.2).bind fun o13 =>
  (fXX1_fill_1 nb o13.1 (o13.1 + (1024 : Int32)) (255 : Int32) o13.2).bind fun o16 =>
  lfix (fun k94 t => fXX3_lay_4_94 nb k51 k94 t.1 t.2.1 t.2.2.1 t.2.2.2.1 t.2.2.2.2) FU (x1, x2, o13.1, x1, o16)
def fXX3_lay_4_48 (nb : Nat) (y0 : Int32) (σ : XS) : Option XS :=
lfix (fun k51 t => fXX3_lay_4_51 nb k51 t.1 t.2.1 t.2.2) FU (y0, (0 : Int32), σ)
def fXX3_lay_4_26 (nb : Nat) (y0 : Int32) (σ : XS) : Option XS :=
(fXX2_fixedBlocks_3 nb (stS σ 5 y0)).bind fun o6 =>
fXX3_lay_4_48 nb o6.1 o6.2
def fXX3_lay_4_0 (nb : Nat) (σ : XS) : Option XS :=
(fXX2_groupBlocks_3 nb σ).bind fun o2 =>
fXX3_lay_4_26 nb o2.1 o2.2
def fXX3_lay_4 (nb : Nat) (σ : XS) : Option XS := fXX3_lay_4_0 nb σ
def fXX2_groupInodes_3_0 (nb : Nat) (σ : XS) : Option (Int32 × XS) :=
some ((σ.1 4), σ)
def fXX2_groupInodes_3 (nb : Nat) (σ : XS) : Option (Int32 × XS) := fXX2_groupInodes_3_0 nb σ
def fXX3_realIn_5_0 (nb : Nat) (x1 : Int32) (σ : XS) : Option (Int32 × XS) :=
(fXX2_groupInodes_3 nb σ).bind fun o2 =>
some (o2.1, o2.2)
def fXX3_realIn_5 (nb : Nat) (x1 : Int32) (σ : XS) : Option (Int32 × XS) := fXX3_realIn_5_0 nb x1 σ
def fXX3_lay_5_94 (nb : Nat) (k51 : (Int32 × Int32 × XS) → Option XS) (k94 : (Int32 × Int32 × Int32 × Int32 × XS) → Option XS) (x1 : Int32) (x2 : Int32) (x3 : Int32) (x4 : Int32) (σ : XS) : Option XS :=
(fXX3_realIn_5 nb x2 σ).bind fun o16 =>
if o16.1 ≤ x4 then
  k51 (x1, (x2 + (1 : Int32)), o16.2)
else
  (fXX1_get_1 nb (x3 + (x4 / (8 : Int32))) o16.2).bind fun o20 =>
  (fXX1_put_1 nb (x3 + (x4 / (8 : Int32))) (o20.1 &&& (((1 : Int32) <<< ((x4 - x4 / (8 : Int32) * (8 : Int32)) &&& 31)) ^^^ (-1 : Int32))) o20.2).bind fun o23 =>
  k94 (x1, x2, x3, (x4 + (1 : Int32)), o23)
def fXX3_lay_5_51 (nb : Nat) (k51 : (Int32 × Int32 × XS) → Option XS) (x1 : Int32) (x2 : Int32) (σ : XS) : Option XS :=
(fXX2_groups_3 nb σ).bind fun o6 =>
if o6.1 ≤ x2 then
  some o6.2
else
  (fXX2_partAt_3 nb x2 (3 : Int32) o6.2).bind fun o10 =>
  (fXX1_fill_1 nb o10.1 (o10.1 + (1024 : Int32)) (255 : Int32) o10.2).bind fun o13 =>
  lfix (fun k94 t => fXX3_lay_5_94 nb k51 k94 t.1 t.2.1 t.2.2.1 t.2.2.2.1 t.2.2.2.2) FU (x1, x2, o10.1, x1, o13)
def fXX3_lay_5_48 (nb : Nat) (y0 : Int32) (σ : XS) : Option XS :=
lfix (fun k51 t => fXX3_lay_5_51 nb k51 t.1 t.2.1 t.2.2) FU (y0, (0 : Int32), σ)
def fXX3_lay_5_26 (nb : Nat) (y0 : Int32) (σ : XS) : Option XS :=
fXX3_lay_5_48 nb (0 : Int32) (stS σ 6 y0)
def fXX3_lay_5_0 (nb : Nat) (σ : XS) : Option XS :=
(fXX2_groupInodes_3 nb σ).bind fun o2 =>
fXX3_lay_5_26 nb o2.1 o2.2
def fXX3_lay_5 (nb : Nat) (σ : XS) : Option XS := fXX3_lay_5_0 nb σ
def fXX2_inodes_3_0 (nb : Nat) (σ : XS) : Option (Int32 × XS) :=
some (((σ.1 3) * (σ.1 4)), σ)
def fXX2_inodes_3 (nb : Nat) (σ : XS) : Option (Int32 × XS) := fXX2_inodes_3_0 nb σ
def fXX1_put4_1_0 (nb : Nat) (x1 : Int32) (x2 : Int32) (σ : XS) : Option XS :=
if x1 < 0 then
  some σ
else
  if ((Int32.ofNat (nb * 1024)) - (4 : Int32)) < x1 then
    some σ
  else
    if x1 < 0 ∨ (nb * 1024) ≤ x1.toNatClampNeg then none else
    if (x1 + (1 : Int32)) < 0 ∨ (nb * 1024) ≤ (x1 + (1 : Int32)).toNatClampNeg then none else
    if (x1 + (2 : Int32)) < 0 ∨ (nb * 1024) ≤ (x1 + (2 : Int32)).toNatClampNeg then none else
    if (x1 + (3 : Int32)) < 0 ∨ (nb * 1024) ≤ (x1 + (3 : Int32)).toNatClampNeg then none else
    some (stA (stA (stA (stA σ 0 x1.toNatClampNeg (vp_nar .byte x2.toInt8.toInt32)) 0 (x1 + (1 : Int32)).toNatClampNeg (vp_nar .byte ((x2 >>> ((8 : Int32) &&& 31)).toInt8.toInt32))) 0 (x1 + (2 : Int32)).toNatClampNeg (vp_nar .byte ((x2 >>> ((16 : Int32) &&& 31)).toInt8.toInt32))) 0 (x1 + (3 : Int32)).toNatClampNeg (vp_nar .byte ((x2 >>> ((24 : Int32) &&& 31)).toInt8.toInt32)))
def fXX1_put4_1 (nb : Nat) (x1 : Int32) (x2 : Int32) (σ : XS) : Option XS := fXX1_put4_1_0 nb x1 x2 σ
def fXX2_blocks_3_0 (nb : Nat) (σ : XS) : Option (Int32 × XS) :=
some ((Int32.ofNat nb), σ)
def fXX2_blocks_3 (nb : Nat) (σ : XS) : Option (Int32 × XS) := fXX2_blocks_3_0 nb σ
def fXX1_put2_1_0 (nb : Nat) (x1 : Int32) (x2 : Int32) (σ : XS) : Option XS :=
if x1 < 0 then
  some σ
else
  if ((Int32.ofNat (nb * 1024)) - (2 : Int32)) < x1 then
    some σ
  else
    if x1 < 0 ∨ (nb * 1024) ≤ x1.toNatClampNeg then none else
    if (x1 + (1 : Int32)) < 0 ∨ (nb * 1024) ≤ (x1 + (1 : Int32)).toNatClampNeg then none else
    some (stA (stA σ 0 x1.toNatClampNeg (vp_nar .byte x2.toInt8.toInt32)) 0 (x1 + (1 : Int32)).toNatClampNeg (vp_nar .byte ((x2 >>> ((8 : Int32) &&& 31)).toInt8.toInt32)))
def fXX1_put2_1 (nb : Nat) (x1 : Int32) (x2 : Int32) (σ : XS) : Option XS := fXX1_put2_1_0 nb x1 x2 σ
def fXJ11_bitCount_41 (nb : Nat) (x0 : Int32) (σ : XS) : Option (Int32 × XS) :=
some (((x0 + (x0.toUInt32 >>> ((16 : Int32).toUInt32 &&& Int32.toUInt32 31)).toInt32) &&& (63 : Int32)), σ)
def fXJ11_bitCount_24 (nb : Nat) (x0 : Int32) (σ : XS) : Option (Int32 × XS) :=
fXJ11_bitCount_41 nb (((x0 + (x0.toUInt32 >>> ((4 : Int32).toUInt32 &&& Int32.toUInt32 31)).toInt32) &&& (252645135 : Int32)) + (((x0 + (x0.toUInt32 >>> ((4 : Int32).toUInt32 &&& Int32.toUInt32 31)).toInt32) &&& (252645135 : Int32)).toUInt32 >>> ((8 : Int32).toUInt32 &&& Int32.toUInt32 31)).toInt32) σ
def fXJ11_bitCount_0 (nb : Nat) (x0 : Int32) (σ : XS) : Option (Int32 × XS) :=
fXJ11_bitCount_24 nb (((x0 - ((x0.toUInt32 >>> ((1 : Int32).toUInt32 &&& Int32.toUInt32 31)).toInt32 &&& (1431655765 : Int32))) &&& (858993459 : Int32)) + (((x0 - ((x0.toUInt32 >>> ((1 : Int32).toUInt32 &&& Int32.toUInt32 31)).toInt32 &&& (1431655765 : Int32))).toUInt32 >>> ((2 : Int32).toUInt32 &&& Int32.toUInt32 31)).toInt32 &&& (858993459 : Int32))) σ
def fXJ11_bitCount (nb : Nat) (x0 : Int32) (σ : XS) : Option (Int32 × XS) := fXJ11_bitCount_0 nb x0 σ
def fXX3_freeIn_4_18 (nb : Nat) (k18 : (Int32 × Int32 × Int32 × XS) → Option (Int32 × XS)) (x2 : Int32) (x3 : Int32) (x4 : Int32) (σ : XS) : Option (Int32 × XS) :=
if ((σ.1 5) / (8 : Int32)) ≤ x4 then
  some (x3, σ)
else
  (fXX1_get_1 nb (x2 + x4) σ).bind fun o5 =>
  (fXJ11_bitCount nb o5.1 o5.2).bind fun o8 =>
  k18 (x2, (x3 + ((8 : Int32) - o8.1)), (x4 + (1 : Int32)), o8.2)
def fXX3_freeIn_4_0 (nb : Nat) (x1 : Int32) (σ : XS) : Option (Int32 × XS) :=
(fXX2_partAt_3 nb x1 (2 : Int32) σ).bind fun o1 =>
lfix (fun k18 t => fXX3_freeIn_4_18 nb k18 t.1 t.2.1 t.2.2.1 t.2.2.2) FU (o1.1, (0 : Int32), (0 : Int32), o1.2)
def fXX3_freeIn_4 (nb : Nat) (x1 : Int32) (σ : XS) : Option (Int32 × XS) := fXX3_freeIn_4_0 nb x1 σ
def fXX3_freeIn_5_18 (nb : Nat) (k18 : (Int32 × Int32 × Int32 × XS) → Option (Int32 × XS)) (x2 : Int32) (x3 : Int32) (x4 : Int32) (σ : XS) : Option (Int32 × XS) :=
if ((σ.1 6) / (8 : Int32)) ≤ x4 then
  some (x3, σ)
else
  (fXX1_get_1 nb (x2 + x4) σ).bind fun o5 =>
  (fXJ11_bitCount nb o5.1 o5.2).bind fun o8 =>
  k18 (x2, (x3 + ((8 : Int32) - o8.1)), (x4 + (1 : Int32)), o8.2)
def fXX3_freeIn_5_0 (nb : Nat) (x1 : Int32) (σ : XS) : Option (Int32 × XS) :=
(fXX2_partAt_3 nb x1 (3 : Int32) σ).bind fun o1 =>
lfix (fun k18 t => fXX3_freeIn_5_18 nb k18 t.1 t.2.1 t.2.2.1 t.2.2.2) FU (o1.1, (0 : Int32), (0 : Int32), o1.2)
def fXX3_freeIn_5 (nb : Nat) (x1 : Int32) (σ : XS) : Option (Int32 × XS) := fXX3_freeIn_5_0 nb x1 σ
def fXX1_get2_1_0 (nb : Nat) (x1 : Int32) (σ : XS) : Option (Int32 × XS) :=
if x1 < 0 then
  some ((0 : Int32), σ)
else
  if x1 ≤ ((Int32.ofNat (nb * 1024)) - (2 : Int32)) then
    if x1 < 0 ∨ (nb * 1024) ≤ x1.toNatClampNeg then none else
    if (x1 + (1 : Int32)) < 0 ∨ (nb * 1024) ≤ (x1 + (1 : Int32)).toNatClampNeg then none else
    some ((((σ.2.1 0 x1.toNatClampNeg) &&& (255 : Int32)) ||| (((σ.2.1 0 (x1 + (1 : Int32)).toNatClampNeg) &&& (255 : Int32)) <<< ((8 : Int32) &&& 31))), σ)
  else
    some ((0 : Int32), σ)
def fXX1_get2_1 (nb : Nat) (x1 : Int32) (σ : XS) : Option (Int32 × XS) := fXX1_get2_1_0 nb x1 σ
def fXX4_directoriesIn_6_51 (nb : Nat) (k15 : (Int32 × Int32 × Int32 × XS) → Option (Int32 × XS)) (x2 : Int32) (x3 : Int32) (x4 : Int32) (σ : XS) : Option (Int32 × XS) :=
k15 (x2, x3, (x4 + (1 : Int32)), σ)
def fXX4_directoriesIn_6_15 (nb : Nat) (k15 : (Int32 × Int32 × Int32 × XS) → Option (Int32 × XS)) (x2 : Int32) (x3 : Int32) (x4 : Int32) (σ : XS) : Option (Int32 × XS) :=
(fXX2_groupInodes_3 nb σ).bind fun o4 =>
if o4.1 ≤ x4 then
  some (x2, o4.2)
else
  (fXX1_get2_1 nb (x3 + (x4 * (128 : Int32))) o4.2).bind fun o8 =>
  if o8.1 = (16877 : Int32) then
    fXX4_directoriesIn_6_51 nb k15 (x2 + (1 : Int32)) x3 x4 o8.2
  else
    fXX4_directoriesIn_6_51 nb k15 x2 x3 x4 o8.2
def fXX4_directoriesIn_6_0 (nb : Nat) (x1 : Int32) (σ : XS) : Option (Int32 × XS) :=
(fXX2_partAt_3 nb x1 (4 : Int32) σ).bind fun o1 =>
lfix (fun k15 t => fXX4_directoriesIn_6_15 nb k15 t.1 t.2.1 t.2.2.1 t.2.2.2) FU ((0 : Int32), o1.1, (0 : Int32), o1.2)
def fXX4_directoriesIn_6 (nb : Nat) (x1 : Int32) (σ : XS) : Option (Int32 × XS) := fXX4_directoriesIn_6_0 nb x1 σ
def fXX6_describe_9_1_0 (nb : Nat) (x2 : Int32) (x3 : Int32) (σ : XS) : Option XS :=
(fXX2_firstBlock_3 nb x3 σ).bind fun o1 =>
(fXX1_put4_1 nb x2 (o1.1 + (2 : Int32)) o1.2).bind fun o4 =>
(fXX1_put4_1 nb (x2 + (4 : Int32)) (o1.1 + (3 : Int32)) o4).bind fun o7 =>
(fXX1_put4_1 nb (x2 + (8 : Int32)) (o1.1 + (4 : Int32)) o7).bind fun o10 =>
(fXX3_freeIn_4 nb x3 o10).bind fun o13 =>
(fXX1_put2_1 nb (x2 + (12 : Int32)) o13.1 o13.2).bind fun o16 =>
(fXX3_freeIn_5 nb x3 o16).bind fun o19 =>
(fXX1_put2_1 nb (x2 + (14 : Int32)) o19.1 o19.2).bind fun o22 =>
(fXX4_directoriesIn_6 nb x3 o22).bind fun o25 =>
(fXX1_put2_1 nb (x2 + (16 : Int32)) o25.1 o25.2).bind fun o28 =>
some o28
def fXX6_describe_9_1 (nb : Nat) (x2 : Int32) (x3 : Int32) (σ : XS) : Option XS := fXX6_describe_9_1_0 nb x2 x3 σ
def fXX6_sketch_9_1_9 (nb : Nat) (k9 : (Int32 × Int32 × Int32 × Int32 × Int32 × XS) → Option XS) (x2 : Int32) (x3 : Int32) (x4 : Int32) (x5 : Int32) (x6 : Int32) (σ : XS) : Option XS :=
(fXX2_groups_3 nb σ).bind fun o1 =>
if o1.1 ≤ x6 then
  (fXX2_inodes_3 nb o1.2).bind fun o5 =>
  (fXX1_put4_1 nb x2 o5.1 o5.2).bind fun o8 =>
  (fXX2_blocks_3 nb o8).bind fun o11 =>
  (fXX1_put4_1 nb (x2 + (4 : Int32)) o11.1 o11.2).bind fun o14 =>
  (fXX1_put4_1 nb (x2 + (12 : Int32)) x4 o14).bind fun o17 =>
  (fXX1_put4_1 nb (x2 + (16 : Int32)) x5 o17).bind fun o20 =>
  (fXX1_put4_1 nb (x2 + (20 : Int32)) (1 : Int32) o20).bind fun o23 =>
  (fXX2_groupBlocks_3 nb o23).bind fun o26 =>
  (fXX1_put4_1 nb (x2 + (32 : Int32)) o26.1 o26.2).bind fun o29 =>
  (fXX2_groupBlocks_3 nb o29).bind fun o32 =>
  (fXX1_put4_1 nb (x2 + (36 : Int32)) o32.1 o32.2).bind fun o35 =>
  (fXX2_groupInodes_3 nb o35).bind fun o38 =>
  (fXX1_put4_1 nb (x2 + (40 : Int32)) o38.1 o38.2).bind fun o41 =>
  (fXX1_put2_1 nb (x2 + (54 : Int32)) (65535 : Int32) o41).bind fun o44 =>
  (fXX1_put2_1 nb (x2 + (56 : Int32)) (61267 : Int32) o44).bind fun o47 =>
  (fXX1_put2_1 nb (x2 + (58 : Int32)) (1 : Int32) o47).bind fun o50 =>
  (fXX1_put2_1 nb (x2 + (60 : Int32)) (1 : Int32) o50).bind fun o53 =>
  (fXX1_put4_1 nb (x2 + (76 : Int32)) (1 : Int32) o53).bind fun o56 =>
  (fXX1_put4_1 nb (x2 + (84 : Int32)) (11 : Int32) o56).bind fun o59 =>
  (fXX1_put2_1 nb (x2 + (88 : Int32)) (128 : Int32) o59).bind fun o62 =>
  (fXX1_put4_1 nb (x2 + (96 : Int32)) (2 : Int32) o62).bind fun o65 =>
  (fXX1_put4_1 nb (x2 + (104 : Int32)) x3 o65).bind fun o68 =>
  some o68
else
  (fXX3_freeIn_4 nb x6 o1.2).bind fun o71 =>
  (fXX3_freeIn_5 nb x6 o71.2).bind fun o74 =>
  (fXX6_describe_9_1 nb ((x2 + (1024 : Int32)) + ((32 : Int32) * x6)) x6 o74.2).bind fun o77 =>
  k9 (x2, x3, (x4 + o71.1), (x5 + o74.1), (x6 + (1 : Int32)), o77)
def fXX6_sketch_9_1_0 (nb : Nat) (x2 : Int32) (x3 : Int32) (σ : XS) : Option XS :=
lfix (fun k9 t => fXX6_sketch_9_1_9 nb k9 t.1 t.2.1 t.2.2.1 t.2.2.2.1 t.2.2.2.2.1 t.2.2.2.2.2) FU (x2, x3, (0 : Int32), (0 : Int32), (0 : Int32), σ)
def fXX6_sketch_9_1 (nb : Nat) (x2 : Int32) (x3 : Int32) (σ : XS) : Option XS := fXX6_sketch_9_1_0 nb x2 x3 σ
def fXX1_copy_1_0 (nb : Nat) (x1 : Int32) (x2 : Int32) (x3 : Int32) (σ : XS) : Option XS :=
if x3 < 0 then
  some σ
else
  if x1 < 0 then
    some σ
  else
    if x2 < 0 then
      some σ
    else
      if ((Int32.ofNat (nb * 1024)) - x3) < x1 then
        some σ
      else
        if ((Int32.ofNat (nb * 1024)) - x3) < x2 then
          some σ
        else
          if x1 < 0 ∨ x2 < 0 ∨ x3 < 0 ∨ (nb * 1024) < x1.toNatClampNeg + x3.toNatClampNeg ∨ (nb * 1024) < x2.toNatClampNeg + x3.toNatClampNeg then none else
          if ∀ i, i < x3.toNatClampNeg → fits .byte (.int ((σ.2.1 0) (x1.toNatClampNeg + i))) = true then
            some (stC σ 0 0 x1.toNatClampNeg x2.toNatClampNeg x3.toNatClampNeg)
          else none
def fXX1_copy_1 (nb : Nat) (x1 : Int32) (x2 : Int32) (x3 : Int32) (σ : XS) : Option XS := fXX1_copy_1_0 nb x1 x2 x3 σ
def fXX6_lay_9_1_11 (nb : Nat) (k11 : (Int32 × XS) → Option XS) (x3 : Int32) (σ : XS) : Option XS :=
(fXX2_groups_3 nb σ).bind fun o4 =>
if o4.1 ≤ x3 then
  some o4.2
else
  (fXX2_partAt_3 nb x3 (0 : Int32) o4.2).bind fun o8 =>
  (fXX1_copy_1 nb (1024 : Int32) o8.1 (2048 : Int32) o8.2).bind fun o11 =>
  (fXX1_put2_1 nb (o8.1 + (90 : Int32)) x3 o11).bind fun o14 =>
  k11 ((x3 + (1 : Int32)), o14)
def fXX6_lay_9_1_0 (nb : Nat) (x2 : Int32) (σ : XS) : Option XS :=
(fXX6_sketch_9_1 nb (1024 : Int32) x2 σ).bind fun o1 =>
lfix (fun k11 t => fXX6_lay_9_1_11 nb k11 t.1 t.2) FU ((1 : Int32), o1)
def fXX6_lay_9_1 (nb : Nat) (x2 : Int32) (σ : XS) : Option XS := fXX6_lay_9_1_0 nb x2 σ
def fXX2_inodeAt_3_0 (nb : Nat) (x1 : Int32) (σ : XS) : Option (Int32 × XS) :=
if (1 : Int32) ≤ (σ.1 4) then
  if (σ.1 4) = 0 then none else
  if (σ.1 4) = 0 then none else
  some ((((((1 : Int32) + (((x1 - (1 : Int32)) / (σ.1 4)) * (σ.1 2))) + (4 : Int32)) * (1024 : Int32)) + (((x1 - (1 : Int32)) - (x1 - (1 : Int32)) / (σ.1 4) * (σ.1 4)) * (128 : Int32))), σ)
else
  some ((-1 : Int32), σ)
def fXX2_inodeAt_3 (nb : Nat) (x1 : Int32) (σ : XS) : Option (Int32 × XS) := fXX2_inodeAt_3_0 nb x1 σ
def fXX4_begin_6_46 (nb : Nat) (y0 : Int32) (y1 : Int32) (σ : XS) : Option XS :=
(fXX1_put2_1 nb y1 y0 σ).bind fun o9 =>
some o9
def fXX4_begin_6_26 (nb : Nat) (x2 : Int32) (x3 : Int32) (y0 : Int32) (y1 : Int32) (σ : XS) : Option XS :=
(fXX1_put2_1 nb y1 y0 σ).bind fun o5 =>
if x2 = 0 then
  fXX4_begin_6_46 nb (1 : Int32) (x3 + (26 : Int32)) o5
else
  fXX4_begin_6_46 nb (2 : Int32) (x3 + (26 : Int32)) o5
def fXX4_begin_6_0 (nb : Nat) (x1 : Int32) (x2 : Int32) (σ : XS) : Option XS :=
(fXX2_inodeAt_3 nb x1 σ).bind fun o1 =>
if x2 = 0 then
  fXX4_begin_6_26 nb x2 o1.1 (33188 : Int32) o1.1 o1.2
else
  fXX4_begin_6_26 nb x2 o1.1 (16877 : Int32) o1.1 o1.2
def fXX4_begin_6 (nb : Nat) (x1 : Int32) (x2 : Int32) (σ : XS) : Option XS := fXX4_begin_6_0 nb x1 x2 σ
def fXX2_groupOfInode_3_0 (nb : Nat) (x1 : Int32) (σ : XS) : Option (Int32 × XS) :=
if (σ.1 4) ≤ 0 then
  some ((0 : Int32), σ)
else
  if (σ.1 4) = 0 then none else
  some (((x1 - (1 : Int32)) / (σ.1 4)), σ)
def fXX2_groupOfInode_3 (nb : Nat) (x1 : Int32) (σ : XS) : Option (Int32 × XS) := fXX2_groupOfInode_3_0 nb x1 σ
def fXX4_countDirectories_6_12 (nb : Nat) (k12 : (Int32 × Int32 × Int32 × XS) → Option XS) (x2 : Int32) (x3 : Int32) (x4 : Int32) (σ : XS) : Option XS :=
(fXX2_groups_3 nb σ).bind fun o4 =>
if o4.1 ≤ x4 then
  some o4.2
else
  (fXX2_partAt_3 nb x4 (1 : Int32) o4.2).bind fun o8 =>
  (fXX1_get2_1 nb ((o8.1 + ((32 : Int32) * x3)) + (16 : Int32)) o8.2).bind fun o11 =>
  (fXX1_put2_1 nb ((o8.1 + ((32 : Int32) * x3)) + (16 : Int32)) (o11.1 + x2) o11.2).bind fun o14 =>
  k12 (x2, x3, (x4 + (1 : Int32)), o14)
def fXX4_countDirectories_6_0 (nb : Nat) (x1 : Int32) (x2 : Int32) (σ : XS) : Option XS :=
(fXX2_groupOfInode_3 nb x1 σ).bind fun o1 =>
lfix (fun k12 t => fXX4_countDirectories_6_12 nb k12 t.1 t.2.1 t.2.2.1 t.2.2.2) FU (x2, o1.1, (0 : Int32), o1.2)
def fXX4_countDirectories_6 (nb : Nat) (x1 : Int32) (x2 : Int32) (σ : XS) : Option XS := fXX4_countDirectories_6_0 nb x1 x2 σ
def fXX1_get4_1_0 (nb : Nat) (x1 : Int32) (σ : XS) : Option (Int32 × XS) :=
if x1 < 0 then
  some ((0 : Int32), σ)
else
  if x1 ≤ ((Int32.ofNat (nb * 1024)) - (4 : Int32)) then
    if x1 < 0 ∨ (nb * 1024) ≤ x1.toNatClampNeg then none else
    if (x1 + (1 : Int32)) < 0 ∨ (nb * 1024) ≤ (x1 + (1 : Int32)).toNatClampNeg then none else
    if (x1 + (2 : Int32)) < 0 ∨ (nb * 1024) ≤ (x1 + (2 : Int32)).toNatClampNeg then none else
    if (x1 + (3 : Int32)) < 0 ∨ (nb * 1024) ≤ (x1 + (3 : Int32)).toNatClampNeg then none else
    some ((((((σ.2.1 0 x1.toNatClampNeg) &&& (255 : Int32)) ||| (((σ.2.1 0 (x1 + (1 : Int32)).toNatClampNeg) &&& (255 : Int32)) <<< ((8 : Int32) &&& 31))) ||| (((σ.2.1 0 (x1 + (2 : Int32)).toNatClampNeg) &&& (255 : Int32)) <<< ((16 : Int32) &&& 31))) ||| (((σ.2.1 0 (x1 + (3 : Int32)).toNatClampNeg) &&& (255 : Int32)) <<< ((24 : Int32) &&& 31))), σ)
  else
    some ((0 : Int32), σ)
def fXX1_get4_1 (nb : Nat) (x1 : Int32) (σ : XS) : Option (Int32 × XS) := fXX1_get4_1_0 nb x1 σ
def fXX4_size_6_0 (nb : Nat) (x1 : Int32) (σ : XS) : Option (Int32 × XS) :=
(fXX2_inodeAt_3 nb x1 σ).bind fun o1 =>
(fXX1_get4_1 nb (o1.1 + (4 : Int32)) o1.2).bind fun o4 =>
some (o4.1, o4.2)
def fXX4_size_6 (nb : Nat) (x1 : Int32) (σ : XS) : Option (Int32 × XS) := fXX4_size_6_0 nb x1 σ
def fXX4_blocksFor_0 (nb : Nat) (x0 : Int32) (σ : XS) : Option (Int32 × XS) :=
some ((((x0 + (1024 : Int32)) - (1 : Int32)) / (1024 : Int32)), σ)
def fXX4_blocksFor (nb : Nat) (x0 : Int32) (σ : XS) : Option (Int32 × XS) := fXX4_blocksFor_0 nb x0 σ
def fXX4_beginsRow_0 (nb : Nat) (x0 : Int32) (σ : XS) : Option (Int32 × XS) :=
if x0 < (268 : Int32) then
  some ((0 : Int32), σ)
else
  if ((x0 - (268 : Int32)) - (x0 - (268 : Int32)) / (256 : Int32) * (256 : Int32)) = 0 then
    some ((1 : Int32), σ)
  else
    some ((0 : Int32), σ)
def fXX4_beginsRow (nb : Nat) (x0 : Int32) (σ : XS) : Option (Int32 × XS) := fXX4_beginsRow_0 nb x0 σ
def fXX4_pointerAt_6_0 (nb : Nat) (x1 : Int32) (x2 : Int32) (σ : XS) : Option (Int32 × XS) :=
if (12 : Int32) ≤ x2 then
  if (268 : Int32) ≤ x2 then
    (fXX1_get4_1 nb (x1 + (92 : Int32)) σ).bind fun o3 =>
    (fXX1_get4_1 nb ((o3.1 * (1024 : Int32)) + ((4 : Int32) * ((x2 - (268 : Int32)) / (256 : Int32)))) o3.2).bind fun o6 =>
    some (((o6.1 * (1024 : Int32)) + ((4 : Int32) * ((x2 - (268 : Int32)) - (x2 - (268 : Int32)) / (256 : Int32) * (256 : Int32)))), o6.2)
  else
    (fXX1_get4_1 nb (x1 + (88 : Int32)) σ).bind fun o9 =>
    some (((o9.1 * (1024 : Int32)) + ((4 : Int32) * (x2 - (12 : Int32)))), o9.2)
else
  some (((x1 + (40 : Int32)) + ((4 : Int32) * x2)), σ)
def fXX4_pointerAt_6 (nb : Nat) (x1 : Int32) (x2 : Int32) (σ : XS) : Option (Int32 × XS) := fXX4_pointerAt_6_0 nb x1 x2 σ
def fXX3_lowestClear_2 (nb : Nat) (k2 : (Int32 × Int32 × XS) → Option (Int32 × XS)) (x0 : Int32) (x1 : Int32) (σ : XS) : Option (Int32 × XS) :=
if (7 : Int32) ≤ x1 then
  some (x1, σ)
else
  if ((x0 >>> (x1 &&& 31)) &&& (1 : Int32)) = (1 : Int32) then
    k2 (x0, (x1 + (1 : Int32)), σ)
  else
    some (x1, σ)
def fXX3_lowestClear_0 (nb : Nat) (x0 : Int32) (σ : XS) : Option (Int32 × XS) :=
lfix (fun k2 t => fXX3_lowestClear_2 nb k2 t.1 t.2.1 t.2.2) FU (x0, (0 : Int32), σ)
def fXX3_lowestClear (nb : Nat) (x0 : Int32) (σ : XS) : Option (Int32 × XS) := fXX3_lowestClear_0 nb x0 σ
def fXX3_mark_4_113 (nb : Nat) (k113 : (Int32 × Int32 × Int32 × XS) → Option XS) (x3 : Int32) (x7 : Int32) (x8 : Int32) (σ : XS) : Option XS :=
(fXX2_groups_3 nb σ).bind fun o21 =>
if o21.1 ≤ x8 then
  some o21.2
else
  (fXX2_partAt_3 nb x8 (0 : Int32) o21.2).bind fun o25 =>
  (fXX2_partAt_3 nb x8 (1 : Int32) o25.2).bind fun o28 =>
  (fXX1_get4_1 nb (o25.1 + (12 : Int32)) o28.2).bind fun o31 =>
  (fXX1_put4_1 nb (o25.1 + (12 : Int32)) (o31.1 + x7) o31.2).bind fun o34 =>
  (fXX1_get2_1 nb ((o28.1 + ((32 : Int32) * x3)) + (12 : Int32)) o34).bind fun o37 =>
  (fXX1_put2_1 nb ((o28.1 + ((32 : Int32) * x3)) + (12 : Int32)) (o37.1 + x7) o37.2).bind fun o40 =>
  k113 (x3, x7, (x8 + (1 : Int32)), o40)
def fXX3_mark_4_108 (nb : Nat) (x3 : Int32) (y0 : Int32) (σ : XS) : Option XS :=
lfix (fun k113 t => fXX3_mark_4_113 nb k113 t.1 t.2.1 t.2.2.1 t.2.2.2) FU (x3, y0, (0 : Int32), σ)
def fXX3_mark_4_96 (nb : Nat) (x2 : Int32) (x3 : Int32) (y0 : Int32) (y1 : Int32) (σ : XS) : Option XS :=
(fXX1_put_1 nb y1 y0 σ).bind fun o17 =>
if x2 = 0 then
  fXX3_mark_4_108 nb x3 (1 : Int32) o17
else
  fXX3_mark_4_108 nb x3 (-1 : Int32) o17
def fXX3_mark_4_57 (nb : Nat) (x2 : Int32) (x3 : Int32) (x5 : Int32) (x6 : Int32) (σ : XS) : Option XS :=
if x2 = 0 then
  (fXX1_get_1 nb x5 σ).bind fun o14 =>
  fXX3_mark_4_96 nb x2 x3 (o14.1 &&& (x6 ^^^ (-1 : Int32))) x5 o14.2
else
  (fXX1_get_1 nb x5 σ).bind fun o43 =>
  fXX3_mark_4_96 nb x2 x3 (o43.1 ||| x6) x5 o43.2
def fXX3_mark_4_0 (nb : Nat) (x1 : Int32) (x2 : Int32) (σ : XS) : Option XS :=
if (1 : Int32) ≤ (σ.1 5) then
  if (σ.1 5) = 0 then none else
  if (σ.1 5) = 0 then none else
  (fXX2_partAt_3 nb ((x1 - (1 : Int32)) / (σ.1 5)) (2 : Int32) σ).bind fun o10 =>
  fXX3_mark_4_57 nb x2 ((x1 - (1 : Int32)) / (σ.1 5)) (o10.1 + (((x1 - (1 : Int32)) - (x1 - (1 : Int32)) / (σ.1 5) * (σ.1 5)) / (8 : Int32))) ((1 : Int32) <<< ((((x1 - (1 : Int32)) - (x1 - (1 : Int32)) / (σ.1 5) * (σ.1 5)) - ((x1 - (1 : Int32)) - (x1 - (1 : Int32)) / (σ.1 5) * (σ.1 5)) / (8 : Int32) * (8 : Int32)) &&& 31)) o10.2
else
  some σ
def fXX3_mark_4 (nb : Nat) (x1 : Int32) (x2 : Int32) (σ : XS) : Option XS := fXX3_mark_4_0 nb x1 x2 σ
def fXX3_take_4_28 (nb : Nat) (k2 : (Int32 × XS) → Option (Int32 × XS)) (k28 : (Int32 × Int32 × Int32 × XS) → Option (Int32 × XS)) (x1 : Int32) (x2 : Int32) (x3 : Int32) (σ : XS) : Option (Int32 × XS) :=
if ((σ.1 5) / (8 : Int32)) ≤ x3 then
  k2 ((x1 + (1 : Int32)), σ)
else
  (fXX1_get_1 nb (x2 + x3) σ).bind fun o9 =>
  if o9.1 = (255 : Int32) then
    k28 (x1, x2, (x3 + (1 : Int32)), o9.2)
  else
    (fXX1_get_1 nb (x2 + x3) o9.2).bind fun o13 =>
    (fXX3_lowestClear nb o13.1 o13.2).bind fun o16 =>
    (fXX3_mark_4 nb ((((1 : Int32) + (x1 * (o9.2.1 5))) + ((8 : Int32) * x3)) + o16.1) (1 : Int32) o16.2).bind fun o19 =>
    some (((((1 : Int32) + (x1 * (o9.2.1 5))) + ((8 : Int32) * x3)) + o16.1), o19)
def fXX3_take_4_2 (nb : Nat) (k2 : (Int32 × XS) → Option (Int32 × XS)) (x1 : Int32) (σ : XS) : Option (Int32 × XS) :=
(fXX2_groups_3 nb σ).bind fun o1 =>
if o1.1 ≤ x1 then
  some ((-1 : Int32), o1.2)
else
  (fXX2_partAt_3 nb x1 (2 : Int32) o1.2).bind fun o5 =>
  lfix (fun k28 t => fXX3_take_4_28 nb k2 k28 t.1 t.2.1 t.2.2.1 t.2.2.2) FU (x1, o5.1, (0 : Int32), o5.2)
def fXX3_take_4_0 (nb : Nat) (σ : XS) : Option (Int32 × XS) :=
lfix (fun k2 t => fXX3_take_4_2 nb k2 t.1 t.2) FU ((0 : Int32), σ)
def fXX3_take_4 (nb : Nat) (σ : XS) : Option (Int32 × XS) := fXX3_take_4_0 nb σ
def fXX4_gain_6_0 (nb : Nat) (x1 : Int32) (x2 : Int32) (σ : XS) : Option XS :=
(fXX3_take_4 nb σ).bind fun o1 =>
if o1.1 = (-1 : Int32) then
  some o1.2
else
  (fXX1_fill_1 nb (o1.1 * (1024 : Int32)) ((o1.1 * (1024 : Int32)) + (1024 : Int32)) (0 : Int32) o1.2).bind fun o5 =>
  (fXX1_put4_1 nb x2 o1.1 o5).bind fun o8 =>
  (fXX1_get4_1 nb (x1 + (28 : Int32)) o8).bind fun o11 =>
  (fXX1_put4_1 nb (x1 + (28 : Int32)) (o11.1 + (2 : Int32)) o11.2).bind fun o14 =>
  some o14
def fXX4_gain_6 (nb : Nat) (x1 : Int32) (x2 : Int32) (σ : XS) : Option XS := fXX4_gain_6_0 nb x1 x2 σ
def fXX4_rowPointerAt_6_0 (nb : Nat) (x1 : Int32) (x2 : Int32) (σ : XS) : Option (Int32 × XS) :=
(fXX1_get4_1 nb (x1 + (92 : Int32)) σ).bind fun o1 =>
some (((o1.1 * (1024 : Int32)) + ((4 : Int32) * ((x2 - (268 : Int32)) / (256 : Int32)))), o1.2)
def fXX4_rowPointerAt_6 (nb : Nat) (x1 : Int32) (x2 : Int32) (σ : XS) : Option (Int32 × XS) := fXX4_rowPointerAt_6_0 nb x1 x2 σ
def fXX4_addBlock_6_58 (nb : Nat) (x2 : Int32) (x3 : Int32) (σ : XS) : Option XS :=
(fXX4_pointerAt_6 nb x3 x2 σ).bind fun o10 =>
(fXX4_gain_6 nb x3 o10.1 o10.2).bind fun o13 =>
some o13
def fXX4_addBlock_6_40 (nb : Nat) (x2 : Int32) (x3 : Int32) (σ : XS) : Option XS :=
(fXX4_beginsRow nb x2 σ).bind fun o6 =>
if o6.1 = 0 then
  fXX4_addBlock_6_58 nb x2 x3 o6.2
else
  (fXX4_rowPointerAt_6 nb x3 x2 o6.2).bind fun o16 =>
  (fXX4_gain_6 nb x3 o16.1 o16.2).bind fun o19 =>
  fXX4_addBlock_6_58 nb x2 x3 o19
def fXX4_addBlock_6_24 (nb : Nat) (x2 : Int32) (x3 : Int32) (σ : XS) : Option XS :=
if x2 = (268 : Int32) then
  (fXX4_gain_6 nb x3 (x3 + (92 : Int32)) σ).bind fun o22 =>
  fXX4_addBlock_6_40 nb x2 x3 o22
else
  fXX4_addBlock_6_40 nb x2 x3 σ
def fXX4_addBlock_6_0 (nb : Nat) (x1 : Int32) (x2 : Int32) (σ : XS) : Option XS :=
(fXX2_inodeAt_3 nb x1 σ).bind fun o1 =>
if x2 = (12 : Int32) then
  (fXX4_gain_6 nb o1.1 (o1.1 + (88 : Int32)) o1.2).bind fun o25 =>
  fXX4_addBlock_6_24 nb x2 o1.1 o25
else
  fXX4_addBlock_6_24 nb x2 o1.1 o1.2
def fXX4_addBlock_6 (nb : Nat) (x1 : Int32) (x2 : Int32) (σ : XS) : Option XS := fXX4_addBlock_6_0 nb x1 x2 σ
def fXX4_setSize_6_0 (nb : Nat) (x1 : Int32) (x2 : Int32) (σ : XS) : Option XS :=
(fXX2_inodeAt_3 nb x1 σ).bind fun o1 =>
(fXX1_put4_1 nb (o1.1 + (4 : Int32)) x2 o1.2).bind fun o4 =>
some o4
def fXX4_setSize_6 (nb : Nat) (x1 : Int32) (x2 : Int32) (σ : XS) : Option XS := fXX4_setSize_6_0 nb x1 x2 σ
def fXX4_blockOf_6_0 (nb : Nat) (x1 : Int32) (x2 : Int32) (σ : XS) : Option (Int32 × XS) :=
(fXX2_inodeAt_3 nb x1 σ).bind fun o1 =>
(fXX4_pointerAt_6 nb o1.1 x2 o1.2).bind fun o4 =>
(fXX1_get4_1 nb o4.1 o4.2).bind fun o7 =>
some (o7.1, o7.2)
def fXX4_blockOf_6 (nb : Nat) (x1 : Int32) (x2 : Int32) (σ : XS) : Option (Int32 × XS) := fXX4_blockOf_6_0 nb x1 x2 σ
def fXX4_addDirectoryBlock_6_0 (nb : Nat) (x1 : Int32) (σ : XS) : Option (Int32 × XS) :=
(fXX4_size_6 nb x1 σ).bind fun o1 =>
(fXX4_blocksFor nb o1.1 o1.2).bind fun o4 =>
(fXX4_addBlock_6 nb x1 o4.1 o4.2).bind fun o7 =>
(fXX4_setSize_6 nb x1 ((o4.1 + (1 : Int32)) * (1024 : Int32)) o7).bind fun o10 =>
(fXX4_blockOf_6 nb x1 o4.1 o10).bind fun o13 =>
some (o13.1, o13.2)
def fXX4_addDirectoryBlock_6 (nb : Nat) (x1 : Int32) (σ : XS) : Option (Int32 × XS) := fXX4_addDirectoryBlock_6_0 nb x1 σ
def fXX5_layDots_7_0 (nb : Nat) (x1 : Int32) (x2 : Int32) (x3 : Int32) (σ : XS) : Option XS :=
(fXX1_put4_1 nb (x1 * (1024 : Int32)) x2 σ).bind fun o1 =>
(fXX1_put2_1 nb ((x1 * (1024 : Int32)) + (4 : Int32)) (12 : Int32) o1).bind fun o4 =>
(fXX1_put_1 nb ((x1 * (1024 : Int32)) + (6 : Int32)) (1 : Int32) o4).bind fun o7 =>
(fXX1_put_1 nb ((x1 * (1024 : Int32)) + (7 : Int32)) (2 : Int32) o7).bind fun o10 =>
(fXX1_put_1 nb ((x1 * (1024 : Int32)) + (8 : Int32)) (46 : Int32) o10).bind fun o13 =>
(fXX1_put4_1 nb ((x1 * (1024 : Int32)) + (12 : Int32)) x3 o13).bind fun o16 =>
(fXX1_put2_1 nb (((x1 * (1024 : Int32)) + (12 : Int32)) + (4 : Int32)) (1012 : Int32) o16).bind fun o19 =>
(fXX1_put_1 nb (((x1 * (1024 : Int32)) + (12 : Int32)) + (6 : Int32)) (2 : Int32) o19).bind fun o22 =>
(fXX1_put_1 nb (((x1 * (1024 : Int32)) + (12 : Int32)) + (7 : Int32)) (2 : Int32) o22).bind fun o25 =>
(fXX1_put2_1 nb (((x1 * (1024 : Int32)) + (12 : Int32)) + (8 : Int32)) (11822 : Int32) o25).bind fun o28 =>
some o28
def fXX5_layDots_7 (nb : Nat) (x1 : Int32) (x2 : Int32) (x3 : Int32) (σ : XS) : Option XS := fXX5_layDots_7_0 nb x1 x2 x3 σ
def fXX3_free_4_0 (nb : Nat) (σ : XS) : Option (Int32 × XS) :=
(fXX1_get4_1 nb ((1024 : Int32) + (12 : Int32)) σ).bind fun o1 =>
some (o1.1, o1.2)
def fXX3_free_4 (nb : Nat) (σ : XS) : Option (Int32 × XS) := fXX3_free_4_0 nb σ
def fXX3_mark_5_113 (nb : Nat) (k113 : (Int32 × Int32 × Int32 × XS) → Option XS) (x3 : Int32) (x7 : Int32) (x8 : Int32) (σ : XS) : Option XS :=
(fXX2_groups_3 nb σ).bind fun o21 =>
if o21.1 ≤ x8 then
  some o21.2
else
  (fXX2_partAt_3 nb x8 (0 : Int32) o21.2).bind fun o25 =>
  (fXX2_partAt_3 nb x8 (1 : Int32) o25.2).bind fun o28 =>
  (fXX1_get4_1 nb (o25.1 + (16 : Int32)) o28.2).bind fun o31 =>
  (fXX1_put4_1 nb (o25.1 + (16 : Int32)) (o31.1 + x7) o31.2).bind fun o34 =>
  (fXX1_get2_1 nb ((o28.1 + ((32 : Int32) * x3)) + (14 : Int32)) o34).bind fun o37 =>
  (fXX1_put2_1 nb ((o28.1 + ((32 : Int32) * x3)) + (14 : Int32)) (o37.1 + x7) o37.2).bind fun o40 =>
  k113 (x3, x7, (x8 + (1 : Int32)), o40)
def fXX3_mark_5_108 (nb : Nat) (x3 : Int32) (y0 : Int32) (σ : XS) : Option XS :=
lfix (fun k113 t => fXX3_mark_5_113 nb k113 t.1 t.2.1 t.2.2.1 t.2.2.2) FU (x3, y0, (0 : Int32), σ)
def fXX3_mark_5_96 (nb : Nat) (x2 : Int32) (x3 : Int32) (y0 : Int32) (y1 : Int32) (σ : XS) : Option XS :=
(fXX1_put_1 nb y1 y0 σ).bind fun o17 =>
if x2 = 0 then
  fXX3_mark_5_108 nb x3 (1 : Int32) o17
else
  fXX3_mark_5_108 nb x3 (-1 : Int32) o17
def fXX3_mark_5_57 (nb : Nat) (x2 : Int32) (x3 : Int32) (x5 : Int32) (x6 : Int32) (σ : XS) : Option XS :=
if x2 = 0 then
  (fXX1_get_1 nb x5 σ).bind fun o14 =>
  fXX3_mark_5_96 nb x2 x3 (o14.1 &&& (x6 ^^^ (-1 : Int32))) x5 o14.2
else
  (fXX1_get_1 nb x5 σ).bind fun o43 =>
  fXX3_mark_5_96 nb x2 x3 (o43.1 ||| x6) x5 o43.2
def fXX3_mark_5_0 (nb : Nat) (x1 : Int32) (x2 : Int32) (σ : XS) : Option XS :=
if (1 : Int32) ≤ (σ.1 6) then
  if (σ.1 6) = 0 then none else
  if (σ.1 6) = 0 then none else
  (fXX2_partAt_3 nb ((x1 - (1 : Int32)) / (σ.1 6)) (3 : Int32) σ).bind fun o10 =>
  fXX3_mark_5_57 nb x2 ((x1 - (1 : Int32)) / (σ.1 6)) (o10.1 + (((x1 - (1 : Int32)) - (x1 - (1 : Int32)) / (σ.1 6) * (σ.1 6)) / (8 : Int32))) ((1 : Int32) <<< ((((x1 - (1 : Int32)) - (x1 - (1 : Int32)) / (σ.1 6) * (σ.1 6)) - ((x1 - (1 : Int32)) - (x1 - (1 : Int32)) / (σ.1 6) * (σ.1 6)) / (8 : Int32) * (8 : Int32)) &&& 31)) o10.2
else
  some σ
def fXX3_mark_5 (nb : Nat) (x1 : Int32) (x2 : Int32) (σ : XS) : Option XS := fXX3_mark_5_0 nb x1 x2 σ
def fXX3_take_5_28 (nb : Nat) (k2 : (Int32 × XS) → Option (Int32 × XS)) (k28 : (Int32 × Int32 × Int32 × XS) → Option (Int32 × XS)) (x1 : Int32) (x2 : Int32) (x3 : Int32) (σ : XS) : Option (Int32 × XS) :=
if ((σ.1 6) / (8 : Int32)) ≤ x3 then
  k2 ((x1 + (1 : Int32)), σ)
else
  (fXX1_get_1 nb (x2 + x3) σ).bind fun o9 =>
  if o9.1 = (255 : Int32) then
    k28 (x1, x2, (x3 + (1 : Int32)), o9.2)
  else
    (fXX1_get_1 nb (x2 + x3) o9.2).bind fun o13 =>
    (fXX3_lowestClear nb o13.1 o13.2).bind fun o16 =>
    (fXX3_mark_5 nb ((((1 : Int32) + (x1 * (o9.2.1 6))) + ((8 : Int32) * x3)) + o16.1) (1 : Int32) o16.2).bind fun o19 =>
    some (((((1 : Int32) + (x1 * (o9.2.1 6))) + ((8 : Int32) * x3)) + o16.1), o19)
def fXX3_take_5_2 (nb : Nat) (k2 : (Int32 × XS) → Option (Int32 × XS)) (x1 : Int32) (σ : XS) : Option (Int32 × XS) :=
(fXX2_groups_3 nb σ).bind fun o1 =>
if o1.1 ≤ x1 then
  some ((-1 : Int32), o1.2)
else
  (fXX2_partAt_3 nb x1 (3 : Int32) o1.2).bind fun o5 =>
  lfix (fun k28 t => fXX3_take_5_28 nb k2 k28 t.1 t.2.1 t.2.2.1 t.2.2.2) FU (x1, o5.1, (0 : Int32), o5.2)
def fXX3_take_5_0 (nb : Nat) (σ : XS) : Option (Int32 × XS) :=
lfix (fun k2 t => fXX3_take_5_2 nb k2 t.1 t.2) FU ((0 : Int32), σ)
def fXX3_take_5 (nb : Nat) (σ : XS) : Option (Int32 × XS) := fXX3_take_5_0 nb σ
def fXX0_format_0_67 (nb : Nat) (k67 : (Int32 × XS) → Option (Nat × Int32 × XS)) (x4 : Int32) (σ : XS) : Option (Nat × Int32 × XS) :=
if (11 : Int32) < x4 then
  (fXX4_begin_6 nb (2 : Int32) (1 : Int32) σ).bind fun o21 =>
  (fXX4_countDirectories_6 nb (2 : Int32) (1 : Int32) o21).bind fun o24 =>
  (fXX4_addDirectoryBlock_6 nb (2 : Int32) o24).bind fun o27 =>
  (fXX5_layDots_7 nb o27.1 (2 : Int32) (2 : Int32) o27.2).bind fun o30 =>
  (fXX3_free_4 nb (stS (stS o30 0 (1 : Int32)) 1 (2 : Int32))).bind fun o33 =>
  some (0, o33.1, o33.2)
else
  (fXX3_take_5 nb σ).bind fun o36 =>
  k67 ((x4 + (1 : Int32)), o36.2)
def fXX0_format_0_0 (nb : Nat) (x1 : Int32) (x2 : Int32) (x3 : Int32) (σ : XS) : Option (Nat × Int32 × XS) :=
(fXX2_choose_3 nb x1 x2 σ).bind fun o1 =>
if o1.1 = 0 then
  some (3, (0 : Int32), o1.2)
else
  (fXX1_length_1 nb o1.2).bind fun o5 =>
  (fXX1_fill_1 nb (0 : Int32) o5.1 (0 : Int32) o5.2).bind fun o8 =>
  (fXX3_lay_4 nb o8).bind fun o11 =>
  (fXX3_lay_5 nb o11).bind fun o14 =>
  (fXX6_lay_9_1 nb x3 o14).bind fun o17 =>
  lfix (fun k67 t => fXX0_format_0_67 nb k67 t.1 t.2) FU ((1 : Int32), o17)
def fXX0_format_0 (nb : Nat) (x1 : Int32) (x2 : Int32) (x3 : Int32) (σ : XS) : Option (Nat × Int32 × XS) := fXX0_format_0_0 nb x1 x2 x3 σ
def fXX3_isUsed_4_0 (nb : Nat) (x1 : Int32) (σ : XS) : Option (Int32 × XS) :=
if (σ.1 5) < (1 : Int32) then
  some ((1 : Int32), σ)
else
  if (1 : Int32) ≤ x1 then
    if (σ.1 5) = 0 then none else
    if (σ.1 5) = 0 then none else
    (fXX2_partAt_3 nb ((x1 - (1 : Int32)) / (σ.1 5)) (2 : Int32) σ).bind fun o5 =>
    (fXX1_get_1 nb (o5.1 + (((x1 - (1 : Int32)) - (x1 - (1 : Int32)) / (σ.1 5) * (σ.1 5)) / (8 : Int32))) o5.2).bind fun o8 =>
    if ((o8.1 >>> ((((x1 - (1 : Int32)) - (x1 - (1 : Int32)) / (σ.1 5) * (σ.1 5)) - ((x1 - (1 : Int32)) - (x1 - (1 : Int32)) / (σ.1 5) * (σ.1 5)) / (8 : Int32) * (8 : Int32)) &&& 31)) &&& (1 : Int32)) = (1 : Int32) then
      some ((1 : Int32), o8.2)
    else
      some ((0 : Int32), o8.2)
  else
    some ((1 : Int32), σ)
def fXX3_isUsed_4 (nb : Nat) (x1 : Int32) (σ : XS) : Option (Int32 × XS) := fXX3_isUsed_4_0 nb x1 σ
def fXX0_byteAt_0_50 (nb : Nat) (x1 : Int32) (y0 : Int32) (σ : XS) : Option (Int32 × XS) :=
if y0 = 0 then
  (fXX1_get_1 nb x1 σ).bind fun o8 =>
  some (o8.1, o8.2)
else
  some ((-1 : Int32), σ)
def fXX0_byteAt_0_49 (nb : Nat) (x1 : Int32) (σ : XS) : Option (Int32 × XS) :=
fXX0_byteAt_0_50 nb x1 (0 : Int32) σ
def fXX0_byteAt_0_0 (nb : Nat) (x1 : Int32) (σ : XS) : Option (Int32 × XS) :=
if x1 < 0 then
  some ((-1 : Int32), σ)
else
  (fXX1_length_1 nb σ).bind fun o2 =>
  if x1 < o2.1 then
    if (o2.2.1 0) = 0 then
      fXX0_byteAt_0_49 nb x1 o2.2
    else
      if (x1 / (1024 : Int32)) ≤ 0 then
        fXX0_byteAt_0_49 nb x1 o2.2
      else
        (fXX3_isUsed_4 nb (x1 / (1024 : Int32)) o2.2).bind fun o12 =>
        if o12.1 = 0 then
          fXX0_byteAt_0_50 nb x1 (1 : Int32) o12.2
        else
          fXX0_byteAt_0_49 nb x1 o12.2
  else
    some ((-1 : Int32), o2.2)
def fXX0_byteAt_0 (nb : Nat) (x1 : Int32) (σ : XS) : Option (Int32 × XS) := fXX0_byteAt_0_0 nb x1 σ
def fXJ2_fill_13_5 (nb : Nat) (k5 : (Int32 × Int32 × Int32 × XS) → Option XS) (x1 : Int32) (x2 : Int32) (x3 : Int32) (σ : XS) : Option XS :=
if x3 ≤ x2 then
  some σ
else
  if x2 < 0 ∨ nb ≤ x2.toNatClampNeg then none else
  k5 (x1, (x2 + (1 : Int32)), x3, (stA σ 3 x2.toNatClampNeg (vp_nar .byte x1)))
def fXJ2_fill_13_0 (nb : Nat) (x1 : Int32) (σ : XS) : Option XS :=
lfix (fun k5 t => fXJ2_fill_13_5 nb k5 t.1 t.2.1 t.2.2.1 t.2.2.2) FU (x1, (0 : Int32), (Int32.ofNat nb), σ)
def fXJ2_fill_13 (nb : Nat) (x1 : Int32) (σ : XS) : Option XS := fXJ2_fill_13_0 nb x1 σ
def fXX7_claim_10_0 (nb : Nat) (x1 : Int32) (σ : XS) : Option (Int32 × XS) :=
if x1 < (1 : Int32) then
  some ((0 : Int32), σ)
else
  if (Int32.ofNat nb) ≤ x1 then
    some ((0 : Int32), σ)
  else
    if x1 < 0 ∨ nb ≤ x1.toNatClampNeg then none else
    if (σ.2.1 3 x1.toNatClampNeg) = 0 then
      if x1 < 0 ∨ nb ≤ x1.toNatClampNeg then none else
      some ((1 : Int32), (stA σ 3 x1.toNatClampNeg (vp_nar .byte (1 : Int32))))
    else
      some ((0 : Int32), σ)
def fXX7_claim_10 (nb : Nat) (x1 : Int32) (σ : XS) : Option (Int32 × XS) := fXX7_claim_10_0 nb x1 σ
def fXX7_claimFixed_10_23 (nb : Nat) (k10 : (Int32 × XS) → Option XS) (k23 : (Int32 × Int32 × XS) → Option XS) (x1 : Int32) (x2 : Int32) (σ : XS) : Option XS :=
(fXX2_fixedBlocks_3 nb σ).bind fun o8 =>
if o8.1 ≤ x2 then
  k10 ((x1 + (1 : Int32)), o8.2)
else
  (fXX2_firstBlock_3 nb x1 o8.2).bind fun o12 =>
  (fXX7_claim_10 nb (o12.1 + x2) o12.2).bind fun o15 =>
  k23 (x1, (x2 + (1 : Int32)), o15.2)
def fXX7_claimFixed_10_10 (nb : Nat) (k10 : (Int32 × XS) → Option XS) (x1 : Int32) (σ : XS) : Option XS :=
(fXX2_groups_3 nb σ).bind fun o4 =>
if o4.1 ≤ x1 then
  some o4.2
else
  lfix (fun k23 t => fXX7_claimFixed_10_23 nb k10 k23 t.1 t.2.1 t.2.2) FU (x1, (0 : Int32), o4.2)
def fXX7_claimFixed_10_0 (nb : Nat) (σ : XS) : Option XS :=
(fXJ2_fill_13 nb (0 : Int32) σ).bind fun o1 =>
lfix (fun k10 t => fXX7_claimFixed_10_10 nb k10 t.1 t.2) FU ((0 : Int32), o1)
def fXX7_claimFixed_10 (nb : Nat) (σ : XS) : Option XS := fXX7_claimFixed_10_0 nb σ
def fXJ2_fill__14_5 (nb : Nat) (k5 : (Int32 × Int32 × Int32 × XS) → Option XS) (x1 : Int32) (x2 : Int32) (x3 : Int32) (σ : XS) : Option XS :=
if x3 ≤ x2 then
  some σ
else
  if x2 < 0 ∨ 2065 ≤ x2.toNatClampNeg then none else
  k5 (x1, (x2 + (1 : Int32)), x3, (stA σ 4 x2.toNatClampNeg x1))
def fXJ2_fill__14_0 (nb : Nat) (x1 : Int32) (σ : XS) : Option XS :=
lfix (fun k5 t => fXJ2_fill__14_5 nb k5 t.1 t.2.1 t.2.2.1 t.2.2.2) FU (x1, (0 : Int32), (Int32.ofNat 2065), σ)
def fXJ2_fill__14 (nb : Nat) (x1 : Int32) (σ : XS) : Option XS := fXJ2_fill__14_0 nb x1 σ
def fXJ2_fill__15_5 (nb : Nat) (k5 : (Int32 × Int32 × Int32 × XS) → Option XS) (x1 : Int32) (x2 : Int32) (x3 : Int32) (σ : XS) : Option XS :=
if x3 ≤ x2 then
  some σ
else
  if x2 < 0 ∨ 2065 ≤ x2.toNatClampNeg then none else
  k5 (x1, (x2 + (1 : Int32)), x3, (stA σ 5 x2.toNatClampNeg x1))
def fXJ2_fill__15_0 (nb : Nat) (x1 : Int32) (σ : XS) : Option XS :=
lfix (fun k5 t => fXJ2_fill__15_5 nb k5 t.1 t.2.1 t.2.2.1 t.2.2.2) FU (x1, (0 : Int32), (Int32.ofNat 2065), σ)
def fXJ2_fill__15 (nb : Nat) (x1 : Int32) (σ : XS) : Option XS := fXJ2_fill__15_0 nb x1 σ
def fXX1_isZero_1_25 (nb : Nat) (k25 : (Int32 × Int32 × XS) → Option (Int32 × XS)) (x2 : Int32) (x3 : Int32) (σ : XS) : Option (Int32 × XS) :=
if x2 ≤ x3 then
  some ((1 : Int32), σ)
else
  (fXX1_get_1 nb x3 σ).bind fun o3 =>
  if o3.1 = 0 then
    k25 (x2, (x3 + (1 : Int32)), o3.2)
  else
    some ((0 : Int32), o3.2)
def fXX1_isZero_1_2 (nb : Nat) (k2 : (Int32 × Int32 × XS) → Option (Int32 × XS)) (x2 : Int32) (x3 : Int32) (σ : XS) : Option (Int32 × XS) :=
if (x2 - (4 : Int32)) < x3 then
  lfix (fun k25 t => fXX1_isZero_1_25 nb k25 t.1 t.2.1 t.2.2) FU (x2, x3, σ)
else
  (fXX1_get4_1 nb x3 σ).bind fun o7 =>
  if o7.1 = 0 then
    k2 (x2, (x3 + (4 : Int32)), o7.2)
  else
    some ((0 : Int32), o7.2)
def fXX1_isZero_1_0 (nb : Nat) (x1 : Int32) (x2 : Int32) (σ : XS) : Option (Int32 × XS) :=
lfix (fun k2 t => fXX1_isZero_1_2 nb k2 t.1 t.2.1 t.2.2) FU (x2, x1, σ)
def fXX1_isZero_1 (nb : Nat) (x1 : Int32) (x2 : Int32) (σ : XS) : Option (Int32 × XS) := fXX1_isZero_1_0 nb x1 x2 σ
def fXX4_withIndirect_0 (nb : Nat) (x0 : Int32) (σ : XS) : Option (Int32 × XS) :=
if (12 : Int32) < x0 then
  if (268 : Int32) < x0 then
    some (((x0 + (2 : Int32)) + ((((x0 - (268 : Int32)) + (256 : Int32)) - (1 : Int32)) / (256 : Int32))), σ)
  else
    some ((x0 + (1 : Int32)), σ)
else
  some (x0, σ)
def fXX4_withIndirect (nb : Nat) (x0 : Int32) (σ : XS) : Option (Int32 × XS) := fXX4_withIndirect_0 nb x0 σ
def fXX7_rowHolds_10_49 (nb : Nat) (k3 : (Int32 × Int32 × Int32 × Int32 × XS) → Option (Int32 × XS)) (x1 : Int32) (x2 : Int32) (x3 : Int32) (x4 : Int32) (σ : XS) : Option (Int32 × XS) :=
k3 (x1, x2, x3, (x4 + (1 : Int32)), σ)
def fXX7_rowHolds_10_3 (nb : Nat) (k3 : (Int32 × Int32 × Int32 × Int32 × XS) → Option (Int32 × XS)) (x1 : Int32) (x2 : Int32) (x3 : Int32) (x4 : Int32) (σ : XS) : Option (Int32 × XS) :=
if x2 ≤ x4 then
  some ((1 : Int32), σ)
else
  (fXX1_get4_1 nb (x1 + ((4 : Int32) * x4)) σ).bind fun o2 =>
  if x3 ≤ x4 then
    if o2.1 = 0 then
      fXX7_rowHolds_10_49 nb k3 x1 x2 x3 x4 o2.2
    else
      some ((0 : Int32), o2.2)
  else
    (fXX7_claim_10 nb o2.1 o2.2).bind fun o7 =>
    if o7.1 = 0 then
      some ((0 : Int32), o7.2)
    else
      fXX7_rowHolds_10_49 nb k3 x1 x2 x3 x4 o7.2
def fXX7_rowHolds_10_0 (nb : Nat) (x1 : Int32) (x2 : Int32) (x3 : Int32) (σ : XS) : Option (Int32 × XS) :=
lfix (fun k3 t => fXX7_rowHolds_10_3 nb k3 t.1 t.2.1 t.2.2.1 t.2.2.2.1 t.2.2.2.2) FU (x1, x2, x3, (0 : Int32), σ)
def fXX7_rowHolds_10 (nb : Nat) (x1 : Int32) (x2 : Int32) (x3 : Int32) (σ : XS) : Option (Int32 × XS) := fXX7_rowHolds_10_0 nb x1 x2 x3 σ
def fXX7_pointersHold_10_150 (nb : Nat) (k150 : (Int32 × Int32 × Int32 × Int32 × XS) → Option (Int32 × XS)) (x4 : Int32) (x5 : Int32) (x6 : Int32) (x7 : Int32) (σ : XS) : Option (Int32 × XS) :=
if x6 ≤ x7 then
  some ((1 : Int32), σ)
else
  (fXX1_get4_1 nb (x5 + ((4 : Int32) * x7)) σ).bind fun o19 =>
  (fXX7_rowHolds_10 nb (o19.1 * (1024 : Int32)) (256 : Int32) (x4 - ((256 : Int32) * x7)) o19.2).bind fun o22 =>
  if o22.1 = 0 then
    some ((0 : Int32), o22.2)
  else
    k150 (x4, x5, x6, (x7 + (1 : Int32)), o22.2)
def fXX7_pointersHold_10_147 (nb : Nat) (x4 : Int32) (x5 : Int32) (x6 : Int32) (σ : XS) : Option (Int32 × XS) :=
lfix (fun k150 t => fXX7_pointersHold_10_150 nb k150 t.1 t.2.1 t.2.2.1 t.2.2.2.1 t.2.2.2.2) FU (x4, x5, x6, (0 : Int32), σ)
def fXX7_pointersHold_10_95 (nb : Nat) (x1 : Int32) (x4 : Int32) (σ : XS) : Option (Int32 × XS) :=
(fXX1_get4_1 nb (x1 + (92 : Int32)) σ).bind fun o14 =>
if (((x4 + (256 : Int32)) - (1 : Int32)) / (256 : Int32)) ≤ 0 then
  fXX7_pointersHold_10_147 nb x4 (o14.1 * (1024 : Int32)) (((x4 + (256 : Int32)) - (1 : Int32)) / (256 : Int32)) o14.2
else
  (fXX7_rowHolds_10 nb (o14.1 * (1024 : Int32)) (256 : Int32) (((x4 + (256 : Int32)) - (1 : Int32)) / (256 : Int32)) o14.2).bind fun o26 =>
  if o26.1 = 0 then
    some ((0 : Int32), o26.2)
  else
    fXX7_pointersHold_10_147 nb x4 (o14.1 * (1024 : Int32)) (((x4 + (256 : Int32)) - (1 : Int32)) / (256 : Int32)) o26.2
def fXX7_pointersHold_10_0 (nb : Nat) (x1 : Int32) (x2 : Int32) (σ : XS) : Option (Int32 × XS) :=
(fXX7_rowHolds_10 nb (x1 + (40 : Int32)) (12 : Int32) x2 σ).bind fun o1 =>
if o1.1 = 0 then
  some ((0 : Int32), o1.2)
else
  (fXX7_rowHolds_10 nb (x1 + (88 : Int32)) (1 : Int32) (if (0 : Int32) < (x2 - (12 : Int32)) then (x2 - (12 : Int32)) else (0 : Int32)) o1.2).bind fun o5 =>
  if o5.1 = 0 then
    some ((0 : Int32), o5.2)
  else
    (fXX7_rowHolds_10 nb (x1 + (92 : Int32)) (1 : Int32) (if (0 : Int32) < (x2 - (268 : Int32)) then (x2 - (268 : Int32)) else (0 : Int32)) o5.2).bind fun o9 =>
    if o9.1 = 0 then
      some ((0 : Int32), o9.2)
    else
      if (if (0 : Int32) < (x2 - (12 : Int32)) then (x2 - (12 : Int32)) else (0 : Int32)) ≤ 0 then
        fXX7_pointersHold_10_95 nb x1 (if (0 : Int32) < (x2 - (268 : Int32)) then (x2 - (268 : Int32)) else (0 : Int32)) o9.2
      else
        (fXX1_get4_1 nb (x1 + (88 : Int32)) o9.2).bind fun o30 =>
        (fXX7_rowHolds_10 nb (o30.1 * (1024 : Int32)) (256 : Int32) (if (0 : Int32) < (x2 - (12 : Int32)) then (x2 - (12 : Int32)) else (0 : Int32)) o30.2).bind fun o33 =>
        if o33.1 = 0 then
          some ((0 : Int32), o33.2)
        else
          fXX7_pointersHold_10_95 nb x1 (if (0 : Int32) < (x2 - (268 : Int32)) then (x2 - (268 : Int32)) else (0 : Int32)) o33.2
def fXX7_pointersHold_10 (nb : Nat) (x1 : Int32) (x2 : Int32) (σ : XS) : Option (Int32 × XS) := fXX7_pointersHold_10_0 nb x1 x2 σ
def fXX7_inodeHolds_10_33 (nb : Nat) (x1 : Int32) (x3 : Int32) (σ : XS) : Option (Int32 × XS) :=
if x3 < 0 then
  some ((0 : Int32), σ)
else
  (fXX1_length_1 nb σ).bind fun o9 =>
  if x3 ≤ o9.1 then
    (fXX4_blocksFor nb x3 o9.2).bind fun o13 =>
    (fXX1_isZero_1 nb (x1 + (2 : Int32)) (x1 + (4 : Int32)) o13.2).bind fun o16 =>
    if o16.1 = 0 then
      some ((0 : Int32), o16.2)
    else
      (fXX1_isZero_1 nb ((x1 + (8 : Int32)) + (12 : Int32)) (x1 + (26 : Int32)) o16.2).bind fun o20 =>
      if o20.1 = 0 then
        some ((0 : Int32), o20.2)
      else
        (fXX1_get4_1 nb (x1 + (28 : Int32)) o20.2).bind fun o24 =>
        (fXX4_withIndirect nb o13.1 o24.2).bind fun o27 =>
        if o24.1 = ((2 : Int32) * o27.1) then
          (fXX1_isZero_1 nb ((x1 + (28 : Int32)) + (4 : Int32)) (x1 + (40 : Int32)) o27.2).bind fun o31 =>
          if o31.1 = 0 then
            some ((0 : Int32), o31.2)
          else
            (fXX1_isZero_1 nb ((x1 + (92 : Int32)) + (4 : Int32)) (x1 + (128 : Int32)) o31.2).bind fun o35 =>
            if o35.1 = 0 then
              some ((0 : Int32), o35.2)
            else
              (fXX7_pointersHold_10 nb x1 o13.1 o35.2).bind fun o39 =>
              if o39.1 = 0 then
                some ((0 : Int32), o39.2)
              else
                some ((1 : Int32), o39.2)
        else
          some ((0 : Int32), o27.2)
  else
    some ((0 : Int32), o9.2)
def fXX7_inodeHolds_10_0 (nb : Nat) (x1 : Int32) (σ : XS) : Option (Int32 × XS) :=
(fXX1_get2_1 nb x1 σ).bind fun o1 =>
(fXX1_get4_1 nb (x1 + (4 : Int32)) o1.2).bind fun o4 =>
if o1.1 = (16877 : Int32) then
  fXX7_inodeHolds_10_33 nb x1 o4.1 o4.2
else
  if o1.1 = (33188 : Int32) then
    fXX7_inodeHolds_10_33 nb x1 o4.1 o4.2
  else
    some ((0 : Int32), o4.2)
def fXX7_inodeHolds_10 (nb : Nat) (x1 : Int32) (σ : XS) : Option (Int32 × XS) := fXX7_inodeHolds_10_0 nb x1 σ
def fXX3_isUsed_5_0 (nb : Nat) (x1 : Int32) (σ : XS) : Option (Int32 × XS) :=
if (σ.1 6) < (1 : Int32) then
  some ((1 : Int32), σ)
else
  if (1 : Int32) ≤ x1 then
    if (σ.1 6) = 0 then none else
    if (σ.1 6) = 0 then none else
    (fXX2_partAt_3 nb ((x1 - (1 : Int32)) / (σ.1 6)) (3 : Int32) σ).bind fun o5 =>
    (fXX1_get_1 nb (o5.1 + (((x1 - (1 : Int32)) - (x1 - (1 : Int32)) / (σ.1 6) * (σ.1 6)) / (8 : Int32))) o5.2).bind fun o8 =>
    if ((o8.1 >>> ((((x1 - (1 : Int32)) - (x1 - (1 : Int32)) / (σ.1 6) * (σ.1 6)) - ((x1 - (1 : Int32)) - (x1 - (1 : Int32)) / (σ.1 6) * (σ.1 6)) / (8 : Int32) * (8 : Int32)) &&& 31)) &&& (1 : Int32)) = (1 : Int32) then
      some ((1 : Int32), o8.2)
    else
      some ((0 : Int32), o8.2)
  else
    some ((1 : Int32), σ)
def fXX3_isUsed_5 (nb : Nat) (x1 : Int32) (σ : XS) : Option (Int32 × XS) := fXX3_isUsed_5_0 nb x1 σ
def fXX7_inodesHold_10_83 (nb : Nat) (k2 : (Int32 × XS) → Option (Int32 × XS)) (x1 : Int32) (σ : XS) : Option (Int32 × XS) :=
k2 ((x1 + (1 : Int32)), σ)
def fXX7_inodesHold_10_49 (nb : Nat) (k2 : (Int32 × XS) → Option (Int32 × XS)) (x1 : Int32) (x2 : Int32) (y0 : Int32) (σ : XS) : Option (Int32 × XS) :=
if y0 = 0 then
  (fXX1_isZero_1 nb x2 (x2 + (128 : Int32)) σ).bind fun o10 =>
  if o10.1 = 0 then
    some ((0 : Int32), o10.2)
  else
    fXX7_inodesHold_10_83 nb k2 x1 o10.2
else
  (fXX7_inodeHolds_10 nb x2 σ).bind fun o14 =>
  if o14.1 = 0 then
    some ((0 : Int32), o14.2)
  else
    fXX7_inodesHold_10_83 nb k2 x1 o14.2
def fXX7_inodesHold_10_44 (nb : Nat) (k2 : (Int32 × XS) → Option (Int32 × XS)) (x1 : Int32) (x2 : Int32) (σ : XS) : Option (Int32 × XS) :=
fXX7_inodesHold_10_49 nb k2 x1 x2 (1 : Int32) σ
def fXX7_inodesHold_10_48 (nb : Nat) (k2 : (Int32 × XS) → Option (Int32 × XS)) (x1 : Int32) (x2 : Int32) (σ : XS) : Option (Int32 × XS) :=
fXX7_inodesHold_10_49 nb k2 x1 x2 (0 : Int32) σ
def fXX7_inodesHold_10_2 (nb : Nat) (k2 : (Int32 × XS) → Option (Int32 × XS)) (x1 : Int32) (σ : XS) : Option (Int32 × XS) :=
(fXX2_inodes_3 nb σ).bind fun o1 =>
if o1.1 < x1 then
  some ((1 : Int32), o1.2)
else
  (fXX2_inodeAt_3 nb x1 o1.2).bind fun o5 =>
  if x1 = (2 : Int32) then
    fXX7_inodesHold_10_44 nb k2 x1 o5.1 o5.2
  else
    if x1 ≤ (11 : Int32) then
      fXX7_inodesHold_10_48 nb k2 x1 o5.1 o5.2
    else
      (fXX3_isUsed_5 nb x1 o5.2).bind fun o19 =>
      if o19.1 = 0 then
        fXX7_inodesHold_10_48 nb k2 x1 o5.1 o19.2
      else
        fXX7_inodesHold_10_44 nb k2 x1 o5.1 o19.2
def fXX7_inodesHold_10_0 (nb : Nat) (σ : XS) : Option (Int32 × XS) :=
lfix (fun k2 t => fXX7_inodesHold_10_2 nb k2 t.1 t.2) FU ((1 : Int32), σ)
def fXX7_inodesHold_10 (nb : Nat) (σ : XS) : Option (Int32 × XS) := fXX7_inodesHold_10_0 nb σ
def fXX4_isDirectory_6_0 (nb : Nat) (x1 : Int32) (σ : XS) : Option (Int32 × XS) :=
(fXX2_inodeAt_3 nb x1 σ).bind fun o1 =>
(fXX1_get2_1 nb o1.1 o1.2).bind fun o4 =>
if o4.1 = (16877 : Int32) then
  some ((1 : Int32), o4.2)
else
  some ((0 : Int32), o4.2)
def fXX4_isDirectory_6 (nb : Nat) (x1 : Int32) (σ : XS) : Option (Int32 × XS) := fXX4_isDirectory_6_0 nb x1 σ
def fXX5_read_7_119 (nb : Nat) (k25 : (Int32 × Int32 × Int32 × XS) → Option XS) (x1 : Int32) (x2 : Int32) (x3 : Int32) (σ : XS) : Option XS :=
k25 (x1, x2, (x3 + (1 : Int32)), σ)
def fXX5_read_7_48 (nb : Nat) (k25 : (Int32 × Int32 × Int32 × XS) → Option XS) (k48 : (Int32 × Int32 × Int32 × Int32 × Int32 × XS) → Option XS) (x1 : Int32) (x2 : Int32) (x3 : Int32) (x4 : Int32) (x5 : Int32) (σ : XS) : Option XS :=
if (1024 : Int32) ≤ x5 then
  fXX5_read_7_119 nb k25 x1 x2 x3 σ
else
  if (Int32.ofNat 2578) ≤ (σ.1 7) then
    fXX5_read_7_119 nb k25 x1 x2 x3 σ
  else
    if (σ.1 7) < 0 ∨ 2578 ≤ (σ.1 7).toNatClampNeg then none else
    (fXX1_get2_1 nb ((x4 + x5) + (4 : Int32)) (stS (stA σ 1 (σ.1 7).toNatClampNeg (x4 + x5)) 7 ((σ.1 7) + (1 : Int32)))).bind fun o14 =>
    k48 (x1, x2, x3, x4, (x5 + (if (8 : Int32) < o14.1 then o14.1 else (8 : Int32))), o14.2)
def fXX5_read_7_25 (nb : Nat) (k25 : (Int32 × Int32 × Int32 × XS) → Option XS) (x1 : Int32) (x2 : Int32) (x3 : Int32) (σ : XS) : Option XS :=
if x2 ≤ x3 then
  some σ
else
  (fXX4_blockOf_6 nb x1 x3 σ).bind fun o8 =>
  lfix (fun k48 t => fXX5_read_7_48 nb k25 k48 t.1 t.2.1 t.2.2.1 t.2.2.2.1 t.2.2.2.2.1 t.2.2.2.2.2) FU (x1, x2, x3, (o8.1 * (1024 : Int32)), (0 : Int32), o8.2)
def fXX5_read_7_0 (nb : Nat) (x1 : Int32) (σ : XS) : Option XS :=
(fXX4_size_6 nb x1 (stS σ 7 (0 : Int32))).bind fun o1 =>
(fXX4_blocksFor nb o1.1 o1.2).bind fun o4 =>
lfix (fun k25 t => fXX5_read_7_25 nb k25 t.1 t.2.1 t.2.2.1 t.2.2.2) FU (x1, (if o4.1 < (512 : Int32) then o4.1 else (512 : Int32)), (0 : Int32), o4.2)
def fXX5_read_7 (nb : Nat) (x1 : Int32) (σ : XS) : Option XS := fXX5_read_7_0 nb x1 σ
def fXX5_count_7_0 (nb : Nat) (σ : XS) : Option (Int32 × XS) :=
some ((σ.1 7), σ)
def fXX5_count_7 (nb : Nat) (σ : XS) : Option (Int32 × XS) := fXX5_count_7_0 nb σ
def fXX5_entryAt_7_0 (nb : Nat) (x1 : Int32) (σ : XS) : Option (Int32 × XS) :=
if x1 < 0 then
  some ((-1 : Int32), σ)
else
  if (σ.1 7) ≤ x1 then
    some ((-1 : Int32), σ)
  else
    if x1 < 0 ∨ 2578 ≤ x1.toNatClampNeg then none else
    some ((σ.2.1 1 x1.toNatClampNeg), σ)
def fXX5_entryAt_7 (nb : Nat) (x1 : Int32) (σ : XS) : Option (Int32 × XS) := fXX5_entryAt_7_0 nb x1 σ
def fXX5_lengthOf_7_0 (nb : Nat) (x1 : Int32) (σ : XS) : Option (Int32 × XS) :=
(fXX5_entryAt_7 nb x1 σ).bind fun o1 =>
(fXX1_get2_1 nb (o1.1 + (4 : Int32)) o1.2).bind fun o4 =>
some (o4.1, o4.2)
def fXX5_lengthOf_7 (nb : Nat) (x1 : Int32) (σ : XS) : Option (Int32 × XS) := fXX5_lengthOf_7_0 nb x1 σ
def fXX5_inodeOf_7_0 (nb : Nat) (x1 : Int32) (σ : XS) : Option (Int32 × XS) :=
(fXX5_entryAt_7 nb x1 σ).bind fun o1 =>
(fXX1_get4_1 nb o1.1 o1.2).bind fun o4 =>
some (o4.1, o4.2)
def fXX5_inodeOf_7 (nb : Nat) (x1 : Int32) (σ : XS) : Option (Int32 × XS) := fXX5_inodeOf_7_0 nb x1 σ
def fXX5_nameLengthOf_7_0 (nb : Nat) (x1 : Int32) (σ : XS) : Option (Int32 × XS) :=
(fXX5_entryAt_7 nb x1 σ).bind fun o1 =>
(fXX1_get_1 nb (o1.1 + (6 : Int32)) o1.2).bind fun o4 =>
some (o4.1, o4.2)
def fXX5_nameLengthOf_7 (nb : Nat) (x1 : Int32) (σ : XS) : Option (Int32 × XS) := fXX5_nameLengthOf_7_0 nb x1 σ
def fXX5_spaceFor_0 (nb : Nat) (x0 : Int32) (σ : XS) : Option (Int32 × XS) :=
some ((((((8 : Int32) + x0) + (3 : Int32)) / (4 : Int32)) * (4 : Int32)), σ)
def fXX5_spaceFor (nb : Nat) (x0 : Int32) (σ : XS) : Option (Int32 × XS) := fXX5_spaceFor_0 nb x0 σ
def fXX5_usedBy_7_0 (nb : Nat) (x1 : Int32) (σ : XS) : Option (Int32 × XS) :=
(fXX5_entryAt_7 nb x1 σ).bind fun o1 =>
(fXX1_get4_1 nb o1.1 o1.2).bind fun o4 =>
if o4.1 = 0 then
  some ((0 : Int32), o4.2)
else
  (fXX1_get_1 nb (o1.1 + (6 : Int32)) o4.2).bind fun o8 =>
  (fXX5_spaceFor nb o8.1 o8.2).bind fun o11 =>
  some (o11.1, o11.2)
def fXX5_usedBy_7 (nb : Nat) (x1 : Int32) (σ : XS) : Option (Int32 × XS) := fXX5_usedBy_7_0 nb x1 σ
def fXX7_entryHolds_10_113 (nb : Nat) (x1 : Int32) (x2 : Int32) (x5 : Int32) (y0 : Int32) (σ : XS) : Option (Int32 × XS) :=
(fXX5_nameLengthOf_7 nb x1 σ).bind fun o16 =>
if x5 = 0 then
  some ((0 : Int32), o16.2)
else
  (fXX1_get_1 nb (x2 + (7 : Int32)) o16.2).bind fun o20 =>
  if o20.1 = y0 then
    (fXX5_usedBy_7 nb x1 o20.2).bind fun o24 =>
    (fXX1_isZero_1 nb ((x2 + (8 : Int32)) + o16.1) (x2 + o24.1) o24.2).bind fun o27 =>
    if o27.1 = 0 then
      some ((0 : Int32), o27.2)
    else
      some ((1 : Int32), o27.2)
  else
    some ((0 : Int32), o20.2)
def fXX7_entryHolds_10_70 (nb : Nat) (x1 : Int32) (x2 : Int32) (x4 : Int32) (y0 : Int32) (σ : XS) : Option (Int32 × XS) :=
if x4 = 0 then
  if y0 = 0 then
    some ((0 : Int32), σ)
  else
    if (x2 - x2 / (1024 : Int32) * (1024 : Int32)) = 0 then
      some ((1 : Int32), σ)
    else
      some ((0 : Int32), σ)
else
  (fXX4_isDirectory_6 nb x4 σ).bind fun o12 =>
  if o12.1 = 0 then
    fXX7_entryHolds_10_113 nb x1 x2 y0 (1 : Int32) o12.2
  else
    fXX7_entryHolds_10_113 nb x1 x2 y0 (2 : Int32) o12.2
def fXX7_entryHolds_10_69 (nb : Nat) (x1 : Int32) (x2 : Int32) (x4 : Int32) (σ : XS) : Option (Int32 × XS) :=
fXX7_entryHolds_10_70 nb x1 x2 x4 (0 : Int32) σ
def fXX7_entryHolds_10_0 (nb : Nat) (x1 : Int32) (σ : XS) : Option (Int32 × XS) :=
(fXX5_entryAt_7 nb x1 σ).bind fun o1 =>
(fXX5_lengthOf_7 nb x1 o1.2).bind fun o4 =>
(fXX5_inodeOf_7 nb x1 o4.2).bind fun o7 =>
if o4.1 < (12 : Int32) then
  fXX7_entryHolds_10_69 nb x1 o1.1 o7.1 o7.2
else
  if (o4.1 - o4.1 / (4 : Int32) * (4 : Int32)) = 0 then
    if (1024 : Int32) < ((o1.1 - o1.1 / (1024 : Int32) * (1024 : Int32)) + o4.1) then
      fXX7_entryHolds_10_69 nb x1 o1.1 o7.1 o7.2
    else
      (fXX5_usedBy_7 nb x1 o7.2).bind fun o35 =>
      if o4.1 < o35.1 then
        fXX7_entryHolds_10_69 nb x1 o1.1 o7.1 o35.2
      else
        fXX7_entryHolds_10_70 nb x1 o1.1 o7.1 (1 : Int32) o35.2
  else
    fXX7_entryHolds_10_69 nb x1 o1.1 o7.1 o7.2
def fXX7_entryHolds_10 (nb : Nat) (x1 : Int32) (σ : XS) : Option (Int32 × XS) := fXX7_entryHolds_10_0 nb x1 σ
def fXX5_letterOf_7_30 (nb : Nat) (x2 : Int32) (x3 : Int32) (y0 : Int32) (σ : XS) : Option (Int32 × XS) :=
if y0 = 0 then
  some ((-1 : Int32), σ)
else
  (fXX1_get_1 nb ((x3 + (8 : Int32)) + x2) σ).bind fun o6 =>
  some (o6.1, o6.2)
def fXX5_letterOf_7_29 (nb : Nat) (x2 : Int32) (x3 : Int32) (σ : XS) : Option (Int32 × XS) :=
fXX5_letterOf_7_30 nb x2 x3 (0 : Int32) σ
def fXX5_letterOf_7_0 (nb : Nat) (x1 : Int32) (x2 : Int32) (σ : XS) : Option (Int32 × XS) :=
(fXX5_entryAt_7 nb x1 σ).bind fun o1 =>
if x2 < 0 then
  fXX5_letterOf_7_29 nb x2 o1.1 o1.2
else
  (fXX1_get_1 nb (o1.1 + (6 : Int32)) o1.2).bind fun o9 =>
  if o9.1 ≤ x2 then
    fXX5_letterOf_7_29 nb x2 o1.1 o9.2
  else
    fXX5_letterOf_7_30 nb x2 o1.1 (1 : Int32) o9.2
def fXX5_letterOf_7 (nb : Nat) (x1 : Int32) (x2 : Int32) (σ : XS) : Option (Int32 × XS) := fXX5_letterOf_7_0 nb x1 x2 σ
def fXX5_parent_7_0 (nb : Nat) (σ : XS) : Option (Int32 × XS) :=
(fXX5_inodeOf_7 nb (1 : Int32) σ).bind fun o1 =>
some (o1.1, o1.2)
def fXX5_parent_7 (nb : Nat) (σ : XS) : Option (Int32 × XS) := fXX5_parent_7_0 nb σ
def fXX7_dotsHold_10_0 (nb : Nat) (x1 : Int32) (σ : XS) : Option (Int32 × XS) :=
(fXX5_count_7 nb σ).bind fun o1 =>
if o1.1 < (2 : Int32) then
  some ((0 : Int32), o1.2)
else
  (fXX7_entryHolds_10 nb (0 : Int32) o1.2).bind fun o5 =>
  if o5.1 = 0 then
    some ((0 : Int32), o5.2)
  else
    (fXX7_entryHolds_10 nb (1 : Int32) o5.2).bind fun o9 =>
    if o9.1 = 0 then
      some ((0 : Int32), o9.2)
    else
      (fXX5_inodeOf_7 nb (0 : Int32) o9.2).bind fun o13 =>
      if o13.1 = x1 then
        (fXX5_lengthOf_7 nb (0 : Int32) o13.2).bind fun o17 =>
        if o17.1 = (12 : Int32) then
          (fXX5_nameLengthOf_7 nb (0 : Int32) o17.2).bind fun o21 =>
          if o21.1 = (1 : Int32) then
            (fXX5_letterOf_7 nb (0 : Int32) (0 : Int32) o21.2).bind fun o25 =>
            if o25.1 = (46 : Int32) then
              (fXX5_nameLengthOf_7 nb (1 : Int32) o25.2).bind fun o29 =>
              if o29.1 = (2 : Int32) then
                (fXX5_letterOf_7 nb (1 : Int32) (0 : Int32) o29.2).bind fun o33 =>
                if o33.1 = (46 : Int32) then
                  (fXX5_letterOf_7 nb (1 : Int32) (1 : Int32) o33.2).bind fun o37 =>
                  if o37.1 = (46 : Int32) then
                    (fXX5_parent_7 nb o37.2).bind fun o41 =>
                    (fXX4_isDirectory_6 nb o41.1 o41.2).bind fun o44 =>
                    if o44.1 = 0 then
                      some ((0 : Int32), o44.2)
                    else
                      some ((1 : Int32), o44.2)
                  else
                    some ((0 : Int32), o37.2)
                else
                  some ((0 : Int32), o33.2)
              else
                some ((0 : Int32), o29.2)
            else
              some ((0 : Int32), o25.2)
          else
            some ((0 : Int32), o21.2)
        else
          some ((0 : Int32), o17.2)
      else
        some ((0 : Int32), o13.2)
def fXX7_dotsHold_10 (nb : Nat) (x1 : Int32) (σ : XS) : Option (Int32 × XS) := fXX7_dotsHold_10_0 nb x1 σ
def fXX4_links_6_0 (nb : Nat) (x1 : Int32) (σ : XS) : Option (Int32 × XS) :=
(fXX2_inodeAt_3 nb x1 σ).bind fun o1 =>
(fXX1_get2_1 nb (o1.1 + (26 : Int32)) o1.2).bind fun o4 =>
some (o4.1, o4.2)
def fXX4_links_6 (nb : Nat) (x1 : Int32) (σ : XS) : Option (Int32 × XS) := fXX4_links_6_0 nb x1 σ
def fXX7_sameName_10_57 (nb : Nat) (k57 : (Int32 × Int32 × Int32 × Int32 × Int32 × XS) → Option (Int32 × XS)) (x3 : Int32) (x4 : Int32) (x5 : Int32) (x6 : Int32) (x7 : Int32) (σ : XS) : Option (Int32 × XS) :=
if x5 ≤ x7 then
  some ((1 : Int32), σ)
else
  (fXX1_get_1 nb ((x3 + x6) + x7) σ).bind fun o15 =>
  (fXX1_get_1 nb ((x4 + x6) + x7) o15.2).bind fun o18 =>
  if o15.1 = o18.1 then
    k57 (x3, x4, x5, x6, (x7 + (1 : Int32)), o18.2)
  else
    some ((0 : Int32), o18.2)
def fXX7_sameName_10_0 (nb : Nat) (x1 : Int32) (x2 : Int32) (σ : XS) : Option (Int32 × XS) :=
(fXX5_entryAt_7 nb x1 σ).bind fun o1 =>
(fXX5_entryAt_7 nb x2 o1.2).bind fun o4 =>
(fXX1_get_1 nb (o1.1 + (6 : Int32)) o4.2).bind fun o7 =>
(fXX1_get_1 nb (o4.1 + (6 : Int32)) o7.2).bind fun o10 =>
if o7.1 = o10.1 then
  lfix (fun k57 t => fXX7_sameName_10_57 nb k57 t.1 t.2.1 t.2.2.1 t.2.2.2.1 t.2.2.2.2.1 t.2.2.2.2.2) FU ((o1.1 + (6 : Int32)), (o4.1 + (6 : Int32)), o7.1, (2 : Int32), (0 : Int32), o10.2)
else
  some ((0 : Int32), o10.2)
def fXX7_sameName_10 (nb : Nat) (x1 : Int32) (x2 : Int32) (σ : XS) : Option (Int32 × XS) := fXX7_sameName_10_0 nb x1 x2 σ
def fXX7_nameHolds_10_76 (nb : Nat) (k49 : (Int32 × Int32 × Int32 × XS) → Option (Int32 × XS)) (x1 : Int32) (x2 : Int32) (x3 : Int32) (σ : XS) : Option (Int32 × XS) :=
k49 (x1, x2, (x3 + (1 : Int32)), σ)
def fXX7_nameHolds_10_49 (nb : Nat) (k49 : (Int32 × Int32 × Int32 × XS) → Option (Int32 × XS)) (x1 : Int32) (x2 : Int32) (x3 : Int32) (σ : XS) : Option (Int32 × XS) :=
if x1 ≤ x3 then
  if x2 ≤ 0 then
    some ((0 : Int32), σ)
  else
    some ((1 : Int32), σ)
else
  (fXX5_inodeOf_7 nb x3 σ).bind fun o7 =>
  if o7.1 = 0 then
    fXX7_nameHolds_10_76 nb k49 x1 x2 x3 o7.2
  else
    (fXX7_sameName_10 nb x3 x1 o7.2).bind fun o11 =>
    if o11.1 = 0 then
      fXX7_nameHolds_10_76 nb k49 x1 x2 x3 o11.2
    else
      some ((0 : Int32), o11.2)
def fXX7_nameHolds_10_11 (nb : Nat) (k11 : (Int32 × Int32 × Int32 × XS) → Option (Int32 × XS)) (x1 : Int32) (x2 : Int32) (x3 : Int32) (σ : XS) : Option (Int32 × XS) :=
if x2 ≤ x3 then
  lfix (fun k49 t => fXX7_nameHolds_10_49 nb k49 t.1 t.2.1 t.2.2.1 t.2.2.2) FU (x1, x2, (0 : Int32), σ)
else
  (fXX5_letterOf_7 nb x1 x3 σ).bind fun o15 =>
  if o15.1 = 0 then
    some ((0 : Int32), o15.2)
  else
    if o15.1 = (47 : Int32) then
      some ((0 : Int32), o15.2)
    else
      k11 (x1, x2, (x3 + (1 : Int32)), o15.2)
def fXX7_nameHolds_10_0 (nb : Nat) (x1 : Int32) (σ : XS) : Option (Int32 × XS) :=
(fXX5_nameLengthOf_7 nb x1 σ).bind fun o1 =>
lfix (fun k11 t => fXX7_nameHolds_10_11 nb k11 t.1 t.2.1 t.2.2.1 t.2.2.2) FU (x1, o1.1, (0 : Int32), o1.2)
def fXX7_nameHolds_10 (nb : Nat) (x1 : Int32) (σ : XS) : Option (Int32 × XS) := fXX7_nameHolds_10_0 nb x1 σ
def fXX7_hold_10_0 (nb : Nat) (x1 : Int32) (x2 : Int32) (σ : XS) : Option (Int32 × XS) :=
if x1 ≤ (11 : Int32) then
  some ((0 : Int32), σ)
else
  (fXX2_inodes_3 nb σ).bind fun o2 =>
  if o2.1 < x1 then
    some ((0 : Int32), o2.2)
  else
    if (Int32.ofNat 2065) ≤ x1 then
      some ((0 : Int32), o2.2)
    else
      if x1 < 0 ∨ 2065 ≤ x1.toNatClampNeg then none else
      if (o2.2.2.1 4 x1.toNatClampNeg) = 0 then
        if x1 < 0 ∨ 2065 ≤ x1.toNatClampNeg then none else
        some ((1 : Int32), (stA o2.2 4 x1.toNatClampNeg x2))
      else
        some ((0 : Int32), o2.2)
def fXX7_hold_10 (nb : Nat) (x1 : Int32) (x2 : Int32) (σ : XS) : Option (Int32 × XS) := fXX7_hold_10_0 nb x1 x2 σ
def fXX7_itemsHold_10_80 (nb : Nat) (k4 : (Int32 × Int32 × Int32 × XS) → Option (Int32 × XS)) (x1 : Int32) (x2 : Int32) (x3 : Int32) (σ : XS) : Option (Int32 × XS) :=
k4 (x1, x2, (x3 + (1 : Int32)), σ)
def fXX7_itemsHold_10_78 (nb : Nat) (k4 : (Int32 × Int32 × Int32 × XS) → Option (Int32 × XS)) (x1 : Int32) (x3 : Int32) (y0 : Int32) (y1 : Int32) (σ : XS) : Option (Int32 × XS) :=
fXX7_itemsHold_10_80 nb k4 x1 (y1 + y0) x3 σ
def fXX7_itemsHold_10_4 (nb : Nat) (k4 : (Int32 × Int32 × Int32 × XS) → Option (Int32 × XS)) (x1 : Int32) (x2 : Int32) (x3 : Int32) (σ : XS) : Option (Int32 × XS) :=
(fXX5_count_7 nb σ).bind fun o1 =>
if o1.1 ≤ x3 then
  (fXX4_links_6 nb x1 o1.2).bind fun o5 =>
  if o5.1 = x2 then
    some ((1 : Int32), o5.2)
  else
    some ((0 : Int32), o5.2)
else
  (fXX7_entryHolds_10 nb x3 o1.2).bind fun o9 =>
  if o9.1 = 0 then
    some ((0 : Int32), o9.2)
  else
    (fXX5_inodeOf_7 nb x3 o9.2).bind fun o13 =>
    if o13.1 = 0 then
      fXX7_itemsHold_10_80 nb k4 x1 x2 x3 o13.2
    else
      (fXX7_nameHolds_10 nb x3 o13.2).bind fun o17 =>
      if o17.1 = 0 then
        some ((0 : Int32), o17.2)
      else
        (fXX7_hold_10 nb o13.1 x1 o17.2).bind fun o21 =>
        if o21.1 = 0 then
          some ((0 : Int32), o21.2)
        else
          (fXX4_isDirectory_6 nb o13.1 o21.2).bind fun o25 =>
          if o25.1 = 0 then
            fXX7_itemsHold_10_78 nb k4 x1 x3 (0 : Int32) x2 o25.2
          else
            fXX7_itemsHold_10_78 nb k4 x1 x3 (1 : Int32) x2 o25.2
def fXX7_itemsHold_10_0 (nb : Nat) (x1 : Int32) (σ : XS) : Option (Int32 × XS) :=
lfix (fun k4 t => fXX7_itemsHold_10_4 nb k4 t.1 t.2.1 t.2.2.1 t.2.2.2) FU (x1, (2 : Int32), (2 : Int32), σ)
def fXX7_itemsHold_10 (nb : Nat) (x1 : Int32) (σ : XS) : Option (Int32 × XS) := fXX7_itemsHold_10_0 nb x1 σ
def fXX7_directoriesHold_10_87 (nb : Nat) (k2 : (Int32 × XS) → Option (Int32 × XS)) (x1 : Int32) (σ : XS) : Option (Int32 × XS) :=
k2 ((x1 + (1 : Int32)), σ)
def fXX7_directoriesHold_10_2 (nb : Nat) (k2 : (Int32 × XS) → Option (Int32 × XS)) (x1 : Int32) (σ : XS) : Option (Int32 × XS) :=
(fXX2_inodes_3 nb σ).bind fun o1 =>
if o1.1 < x1 then
  some ((1 : Int32), o1.2)
else
  (fXX4_isDirectory_6 nb x1 o1.2).bind fun o5 =>
  if o5.1 = 0 then
    fXX7_directoriesHold_10_87 nb k2 x1 o5.2
  else
    (fXX5_read_7 nb x1 o5.2).bind fun o9 =>
    (fXX4_size_6 nb x1 o9).bind fun o12 =>
    if (o12.1 - o12.1 / (1024 : Int32) * (1024 : Int32)) = 0 then
      (fXX7_dotsHold_10 nb x1 o12.2).bind fun o16 =>
      if o16.1 = 0 then
        some ((0 : Int32), o16.2)
      else
        (fXX7_itemsHold_10 nb x1 o16.2).bind fun o20 =>
        if o20.1 = 0 then
          some ((0 : Int32), o20.2)
        else
          if (Int32.ofNat 2065) ≤ x1 then
            fXX7_directoriesHold_10_87 nb k2 x1 o20.2
          else
            (fXX5_parent_7 nb o20.2).bind fun o25 =>
            if x1 < 0 ∨ 2065 ≤ x1.toNatClampNeg then none else
            fXX7_directoriesHold_10_87 nb k2 x1 (stA o25.2 5 x1.toNatClampNeg o25.1)
    else
      some ((0 : Int32), o12.2)
def fXX7_directoriesHold_10_0 (nb : Nat) (σ : XS) : Option (Int32 × XS) :=
lfix (fun k2 t => fXX7_directoriesHold_10_2 nb k2 t.1 t.2) FU ((2 : Int32), σ)
def fXX7_directoriesHold_10 (nb : Nat) (σ : XS) : Option (Int32 × XS) := fXX7_directoriesHold_10_0 nb σ
def fXX7_parentOf_10_0 (nb : Nat) (x1 : Int32) (σ : XS) : Option (Int32 × XS) :=
if x1 < 0 then
  some ((0 : Int32), σ)
else
  if (Int32.ofNat 2065) ≤ x1 then
    some ((0 : Int32), σ)
  else
    if x1 < 0 ∨ 2065 ≤ x1.toNatClampNeg then none else
    some ((σ.2.1 5 x1.toNatClampNeg), σ)
def fXX7_parentOf_10 (nb : Nat) (x1 : Int32) (σ : XS) : Option (Int32 × XS) := fXX7_parentOf_10_0 nb x1 σ
def fXX7_holderOf_10_0 (nb : Nat) (x1 : Int32) (σ : XS) : Option (Int32 × XS) :=
if x1 < 0 then
  some ((0 : Int32), σ)
else
  if (Int32.ofNat 2065) ≤ x1 then
    some ((0 : Int32), σ)
  else
    if x1 < 0 ∨ 2065 ≤ x1.toNatClampNeg then none else
    some ((σ.2.1 4 x1.toNatClampNeg), σ)
def fXX7_holderOf_10 (nb : Nat) (x1 : Int32) (σ : XS) : Option (Int32 × XS) := fXX7_holderOf_10_0 nb x1 σ
def fXX7_parentHolds_10_47 (nb : Nat) (x2 : Int32) (σ : XS) : Option (Int32 × XS) :=
if x2 = (2 : Int32) then
  some ((1 : Int32), σ)
else
  some ((0 : Int32), σ)
def fXX7_parentHolds_10_19 (nb : Nat) (k19 : (Int32 × Int32 × XS) → Option (Int32 × XS)) (x2 : Int32) (x3 : Int32) (σ : XS) : Option (Int32 × XS) :=
if (2064 : Int32) ≤ x3 then
  fXX7_parentHolds_10_47 nb x2 σ
else
  if x2 = (2 : Int32) then
    fXX7_parentHolds_10_47 nb x2 σ
  else
    if x2 = 0 then
      fXX7_parentHolds_10_47 nb x2 σ
    else
      (fXX7_holderOf_10 nb x2 σ).bind fun o12 =>
      k19 (o12.1, (x3 + (1 : Int32)), o12.2)
def fXX7_parentHolds_10_0 (nb : Nat) (x1 : Int32) (σ : XS) : Option (Int32 × XS) :=
(fXX7_parentOf_10 nb x1 σ).bind fun o1 =>
(fXX7_holderOf_10 nb x1 o1.2).bind fun o4 =>
if o1.1 = o4.1 then
  lfix (fun k19 t => fXX7_parentHolds_10_19 nb k19 t.1 t.2.1 t.2.2) FU (x1, (0 : Int32), o4.2)
else
  some ((0 : Int32), o4.2)
def fXX7_parentHolds_10 (nb : Nat) (x1 : Int32) (σ : XS) : Option (Int32 × XS) := fXX7_parentHolds_10_0 nb x1 σ
def fXX7_treeHolds_10_92 (nb : Nat) (k3 : (Int32 × XS) → Option (Int32 × XS)) (x1 : Int32) (σ : XS) : Option (Int32 × XS) :=
k3 ((x1 + (1 : Int32)), σ)
def fXX7_treeHolds_10_71 (nb : Nat) (k3 : (Int32 × XS) → Option (Int32 × XS)) (x1 : Int32) (σ : XS) : Option (Int32 × XS) :=
(fXX4_isDirectory_6 nb x1 σ).bind fun o22 =>
if o22.1 = 0 then
  fXX7_treeHolds_10_92 nb k3 x1 o22.2
else
  (fXX7_parentHolds_10 nb x1 o22.2).bind fun o26 =>
  if o26.1 = 0 then
    some ((0 : Int32), o26.2)
  else
    fXX7_treeHolds_10_92 nb k3 x1 o26.2
def fXX7_treeHolds_10_27 (nb : Nat) (k3 : (Int32 × XS) → Option (Int32 × XS)) (x1 : Int32) (y0 : Int32) (σ : XS) : Option (Int32 × XS) :=
(fXX3_isUsed_5 nb x1 σ).bind fun o17 =>
if y0 = o17.1 then
  if y0 = 0 then
    fXX7_treeHolds_10_71 nb k3 x1 o17.2
  else
    (fXX4_isDirectory_6 nb x1 o17.2).bind fun o30 =>
    if o30.1 = 0 then
      (fXX4_links_6 nb x1 o30.2).bind fun o34 =>
      if o34.1 = (1 : Int32) then
        fXX7_treeHolds_10_71 nb k3 x1 o34.2
      else
        some ((0 : Int32), o34.2)
    else
      fXX7_treeHolds_10_71 nb k3 x1 o30.2
else
  some ((0 : Int32), o17.2)
def fXX7_treeHolds_10_3 (nb : Nat) (k3 : (Int32 × XS) → Option (Int32 × XS)) (x1 : Int32) (σ : XS) : Option (Int32 × XS) :=
(fXX2_inodes_3 nb σ).bind fun o1 =>
if o1.1 < x1 then
  (fXX4_isDirectory_6 nb (2 : Int32) o1.2).bind fun o5 =>
  if o5.1 = 0 then
    some ((0 : Int32), o5.2)
  else
    (fXX7_parentOf_10 nb (2 : Int32) o5.2).bind fun o9 =>
    if o9.1 = (2 : Int32) then
      some ((1 : Int32), o9.2)
    else
      some ((0 : Int32), o9.2)
else
  (fXX7_holderOf_10 nb x1 o1.2).bind fun o13 =>
  if o13.1 = 0 then
    fXX7_treeHolds_10_27 nb k3 x1 (0 : Int32) o13.2
  else
    fXX7_treeHolds_10_27 nb k3 x1 (1 : Int32) o13.2
def fXX7_treeHolds_10_0 (nb : Nat) (σ : XS) : Option (Int32 × XS) :=
lfix (fun k3 t => fXX7_treeHolds_10_3 nb k3 t.1 t.2) FU ((12 : Int32), σ)
def fXX7_treeHolds_10 (nb : Nat) (σ : XS) : Option (Int32 × XS) := fXX7_treeHolds_10_0 nb σ
def fXX3_tailHolds_4_60 (nb : Nat) (k25 : (Int32 × Int32 × Int32 × XS) → Option (Int32 × XS)) (x2 : Int32) (x3 : Int32) (x4 : Int32) (y0 : Int32) (σ : XS) : Option (Int32 × XS) :=
(fXX1_get_1 nb (x3 + x4) σ).bind fun o9 =>
if (o9.1 &&& y0) = y0 then
  k25 (x2, x3, (x4 + (1 : Int32)), o9.2)
else
  some ((0 : Int32), o9.2)
def fXX3_tailHolds_4_25 (nb : Nat) (k25 : (Int32 × Int32 × Int32 × XS) → Option (Int32 × XS)) (x2 : Int32) (x3 : Int32) (x4 : Int32) (σ : XS) : Option (Int32 × XS) :=
if (1024 : Int32) ≤ x4 then
  some ((1 : Int32), σ)
else
  if x4 = (x2 / (8 : Int32)) then
    fXX3_tailHolds_4_60 nb k25 x2 x3 x4 (((255 : Int32) <<< ((x2 - x2 / (8 : Int32) * (8 : Int32)) &&& 31)) &&& (255 : Int32)) σ
  else
    fXX3_tailHolds_4_60 nb k25 x2 x3 x4 (255 : Int32) σ
def fXX3_tailHolds_4_0 (nb : Nat) (x1 : Int32) (σ : XS) : Option (Int32 × XS) :=
(fXX3_realIn_4 nb x1 σ).bind fun o1 =>
(fXX2_partAt_3 nb x1 (2 : Int32) o1.2).bind fun o4 =>
lfix (fun k25 t => fXX3_tailHolds_4_25 nb k25 t.1 t.2.1 t.2.2.1 t.2.2.2) FU (o1.1, o4.1, (o1.1 / (8 : Int32)), o4.2)
def fXX3_tailHolds_4 (nb : Nat) (x1 : Int32) (σ : XS) : Option (Int32 × XS) := fXX3_tailHolds_4_0 nb x1 σ
def fXX3_tailHolds_5_60 (nb : Nat) (k25 : (Int32 × Int32 × Int32 × XS) → Option (Int32 × XS)) (x2 : Int32) (x3 : Int32) (x4 : Int32) (y0 : Int32) (σ : XS) : Option (Int32 × XS) :=
(fXX1_get_1 nb (x3 + x4) σ).bind fun o9 =>
if (o9.1 &&& y0) = y0 then
  k25 (x2, x3, (x4 + (1 : Int32)), o9.2)
else
  some ((0 : Int32), o9.2)
def fXX3_tailHolds_5_25 (nb : Nat) (k25 : (Int32 × Int32 × Int32 × XS) → Option (Int32 × XS)) (x2 : Int32) (x3 : Int32) (x4 : Int32) (σ : XS) : Option (Int32 × XS) :=
if (1024 : Int32) ≤ x4 then
  some ((1 : Int32), σ)
else
  if x4 = (x2 / (8 : Int32)) then
    fXX3_tailHolds_5_60 nb k25 x2 x3 x4 (((255 : Int32) <<< ((x2 - x2 / (8 : Int32) * (8 : Int32)) &&& 31)) &&& (255 : Int32)) σ
  else
    fXX3_tailHolds_5_60 nb k25 x2 x3 x4 (255 : Int32) σ
def fXX3_tailHolds_5_0 (nb : Nat) (x1 : Int32) (σ : XS) : Option (Int32 × XS) :=
(fXX3_realIn_5 nb x1 σ).bind fun o1 =>
(fXX2_partAt_3 nb x1 (3 : Int32) o1.2).bind fun o4 =>
lfix (fun k25 t => fXX3_tailHolds_5_25 nb k25 t.1 t.2.1 t.2.2.1 t.2.2.2) FU (o1.1, o4.1, (o1.1 / (8 : Int32)), o4.2)
def fXX3_tailHolds_5 (nb : Nat) (x1 : Int32) (σ : XS) : Option (Int32 × XS) := fXX3_tailHolds_5_0 nb x1 σ
def fXX7_mapsHold_10_73 (nb : Nat) (k73 : (Int32 × XS) → Option (Int32 × XS)) (x1 : Int32) (σ : XS) : Option (Int32 × XS) :=
(fXX2_groups_3 nb σ).bind fun o3 =>
if o3.1 ≤ x1 then
  some ((1 : Int32), o3.2)
else
  (fXX3_tailHolds_4 nb x1 o3.2).bind fun o7 =>
  if o7.1 = 0 then
    some ((0 : Int32), o7.2)
  else
    (fXX3_tailHolds_5 nb x1 o7.2).bind fun o11 =>
    if o11.1 = 0 then
      some ((0 : Int32), o11.2)
    else
      k73 ((x1 + (1 : Int32)), o11.2)
def fXX7_mapsHold_10_46 (nb : Nat) (k46 : (Int32 × XS) → Option (Int32 × XS)) (x1 : Int32) (σ : XS) : Option (Int32 × XS) :=
if (11 : Int32) < x1 then
  lfix (fun k73 t => fXX7_mapsHold_10_73 nb k73 t.1 t.2) FU ((0 : Int32), σ)
else
  (fXX3_isUsed_5 nb x1 σ).bind fun o15 =>
  if o15.1 = 0 then
    some ((0 : Int32), o15.2)
  else
    k46 ((x1 + (1 : Int32)), o15.2)
def fXX7_mapsHold_10_33 (nb : Nat) (k2 : (Int32 × XS) → Option (Int32 × XS)) (x1 : Int32) (y0 : Int32) (y1 : Int32) (σ : XS) : Option (Int32 × XS) :=
if y1 = y0 then
  k2 ((x1 + (1 : Int32)), σ)
else
  some ((0 : Int32), σ)
def fXX7_mapsHold_10_2 (nb : Nat) (k2 : (Int32 × XS) → Option (Int32 × XS)) (x1 : Int32) (σ : XS) : Option (Int32 × XS) :=
if (Int32.ofNat nb) ≤ x1 then
  lfix (fun k46 t => fXX7_mapsHold_10_46 nb k46 t.1 t.2) FU ((1 : Int32), σ)
else
  (fXX3_isUsed_4 nb x1 σ).bind fun o19 =>
  if x1 < 0 ∨ nb ≤ x1.toNatClampNeg then none else
  if (o19.2.2.1 3 x1.toNatClampNeg) = 0 then
    fXX7_mapsHold_10_33 nb k2 x1 (0 : Int32) o19.1 o19.2
  else
    fXX7_mapsHold_10_33 nb k2 x1 (1 : Int32) o19.1 o19.2
def fXX7_mapsHold_10_0 (nb : Nat) (σ : XS) : Option (Int32 × XS) :=
lfix (fun k2 t => fXX7_mapsHold_10_2 nb k2 t.1 t.2) FU ((1 : Int32), σ)
def fXX7_mapsHold_10 (nb : Nat) (σ : XS) : Option (Int32 × XS) := fXX7_mapsHold_10_0 nb σ
def fXX1_length_11_0 (nb : Nat) (σ : XS) : Option (Int32 × XS) :=
some ((Int32.ofNat 2048), σ)
def fXX1_length_11 (nb : Nat) (σ : XS) : Option (Int32 × XS) := fXX1_length_11_0 nb σ
def fXJ2_fill___12_10 (nb : Nat) (k10 : (Int32 × Int32 × Int32 × XS) → Option XS) (x2 : Int32) (x3 : Int32) (x4 : Int32) (σ : XS) : Option XS :=
if x2 ≤ x4 then
  some σ
else
  if x4 < 0 ∨ 2048 ≤ x4.toNatClampNeg then none else
  k10 (x2, x3, (x4 + (1 : Int32)), (stA σ 2 x4.toNatClampNeg (vp_nar .byte x3)))
def fXJ2_fill___12_0 (nb : Nat) (x1 : Int32) (x2 : Int32) (x3 : Int32) (σ : XS) : Option XS :=
(fXJ2_rangeCheck nb (Int32.ofNat 2048) x1 x2 σ).bind fun o1 =>
lfix (fun k10 t => fXJ2_fill___12_10 nb k10 t.1 t.2.1 t.2.2.1 t.2.2.2) FU (x2, x3, x1, o1)
def fXJ2_fill___12 (nb : Nat) (x1 : Int32) (x2 : Int32) (x3 : Int32) (σ : XS) : Option XS := fXJ2_fill___12_0 nb x1 x2 x3 σ
def fXX1_fill_11_0 (nb : Nat) (x1 : Int32) (x2 : Int32) (x3 : Int32) (σ : XS) : Option XS :=
if x1 < 0 then
  some σ
else
  if x2 < x1 then
    some σ
  else
    if (Int32.ofNat 2048) < x2 then
      some σ
    else
      (fXJ2_fill___12 nb x1 x2 x3.toInt8.toInt32 σ).bind fun o4 =>
      some o4
def fXX1_fill_11 (nb : Nat) (x1 : Int32) (x2 : Int32) (x3 : Int32) (σ : XS) : Option XS := fXX1_fill_11_0 nb x1 x2 x3 σ
def fXX1_put4_11_0 (nb : Nat) (x1 : Int32) (x2 : Int32) (σ : XS) : Option XS :=
if x1 < 0 then
  some σ
else
  if ((Int32.ofNat 2048) - (4 : Int32)) < x1 then
    some σ
  else
    if x1 < 0 ∨ 2048 ≤ x1.toNatClampNeg then none else
    if (x1 + (1 : Int32)) < 0 ∨ 2048 ≤ (x1 + (1 : Int32)).toNatClampNeg then none else
    if (x1 + (2 : Int32)) < 0 ∨ 2048 ≤ (x1 + (2 : Int32)).toNatClampNeg then none else
    if (x1 + (3 : Int32)) < 0 ∨ 2048 ≤ (x1 + (3 : Int32)).toNatClampNeg then none else
    some (stA (stA (stA (stA σ 2 x1.toNatClampNeg (vp_nar .byte x2.toInt8.toInt32)) 2 (x1 + (1 : Int32)).toNatClampNeg (vp_nar .byte ((x2 >>> ((8 : Int32) &&& 31)).toInt8.toInt32))) 2 (x1 + (2 : Int32)).toNatClampNeg (vp_nar .byte ((x2 >>> ((16 : Int32) &&& 31)).toInt8.toInt32))) 2 (x1 + (3 : Int32)).toNatClampNeg (vp_nar .byte ((x2 >>> ((24 : Int32) &&& 31)).toInt8.toInt32)))
def fXX1_put4_11 (nb : Nat) (x1 : Int32) (x2 : Int32) (σ : XS) : Option XS := fXX1_put4_11_0 nb x1 x2 σ
def fXX1_put2_11_0 (nb : Nat) (x1 : Int32) (x2 : Int32) (σ : XS) : Option XS :=
if x1 < 0 then
  some σ
else
  if ((Int32.ofNat 2048) - (2 : Int32)) < x1 then
    some σ
  else
    if x1 < 0 ∨ 2048 ≤ x1.toNatClampNeg then none else
    if (x1 + (1 : Int32)) < 0 ∨ 2048 ≤ (x1 + (1 : Int32)).toNatClampNeg then none else
    some (stA (stA σ 2 x1.toNatClampNeg (vp_nar .byte x2.toInt8.toInt32)) 2 (x1 + (1 : Int32)).toNatClampNeg (vp_nar .byte ((x2 >>> ((8 : Int32) &&& 31)).toInt8.toInt32)))
def fXX1_put2_11 (nb : Nat) (x1 : Int32) (x2 : Int32) (σ : XS) : Option XS := fXX1_put2_11_0 nb x1 x2 σ
def fXX6_describe_9_11_0 (nb : Nat) (x2 : Int32) (x3 : Int32) (σ : XS) : Option XS :=
(fXX2_firstBlock_3 nb x3 σ).bind fun o1 =>
(fXX1_put4_11 nb x2 (o1.1 + (2 : Int32)) o1.2).bind fun o4 =>
(fXX1_put4_11 nb (x2 + (4 : Int32)) (o1.1 + (3 : Int32)) o4).bind fun o7 =>
(fXX1_put4_11 nb (x2 + (8 : Int32)) (o1.1 + (4 : Int32)) o7).bind fun o10 =>
(fXX3_freeIn_4 nb x3 o10).bind fun o13 =>
(fXX1_put2_11 nb (x2 + (12 : Int32)) o13.1 o13.2).bind fun o16 =>
(fXX3_freeIn_5 nb x3 o16).bind fun o19 =>
(fXX1_put2_11 nb (x2 + (14 : Int32)) o19.1 o19.2).bind fun o22 =>
(fXX4_directoriesIn_6 nb x3 o22).bind fun o25 =>
(fXX1_put2_11 nb (x2 + (16 : Int32)) o25.1 o25.2).bind fun o28 =>
some o28
def fXX6_describe_9_11 (nb : Nat) (x2 : Int32) (x3 : Int32) (σ : XS) : Option XS := fXX6_describe_9_11_0 nb x2 x3 σ
def fXX6_sketch_9_11_9 (nb : Nat) (k9 : (Int32 × Int32 × Int32 × Int32 × Int32 × XS) → Option XS) (x2 : Int32) (x3 : Int32) (x4 : Int32) (x5 : Int32) (x6 : Int32) (σ : XS) : Option XS :=
(fXX2_groups_3 nb σ).bind fun o1 =>
if o1.1 ≤ x6 then
  (fXX2_inodes_3 nb o1.2).bind fun o5 =>
  (fXX1_put4_11 nb x2 o5.1 o5.2).bind fun o8 =>
  (fXX2_blocks_3 nb o8).bind fun o11 =>
  (fXX1_put4_11 nb (x2 + (4 : Int32)) o11.1 o11.2).bind fun o14 =>
  (fXX1_put4_11 nb (x2 + (12 : Int32)) x4 o14).bind fun o17 =>
  (fXX1_put4_11 nb (x2 + (16 : Int32)) x5 o17).bind fun o20 =>
  (fXX1_put4_11 nb (x2 + (20 : Int32)) (1 : Int32) o20).bind fun o23 =>
  (fXX2_groupBlocks_3 nb o23).bind fun o26 =>
  (fXX1_put4_11 nb (x2 + (32 : Int32)) o26.1 o26.2).bind fun o29 =>
  (fXX2_groupBlocks_3 nb o29).bind fun o32 =>
  (fXX1_put4_11 nb (x2 + (36 : Int32)) o32.1 o32.2).bind fun o35 =>
  (fXX2_groupInodes_3 nb o35).bind fun o38 =>
  (fXX1_put4_11 nb (x2 + (40 : Int32)) o38.1 o38.2).bind fun o41 =>
  (fXX1_put2_11 nb (x2 + (54 : Int32)) (65535 : Int32) o41).bind fun o44 =>
  (fXX1_put2_11 nb (x2 + (56 : Int32)) (61267 : Int32) o44).bind fun o47 =>
  (fXX1_put2_11 nb (x2 + (58 : Int32)) (1 : Int32) o47).bind fun o50 =>
  (fXX1_put2_11 nb (x2 + (60 : Int32)) (1 : Int32) o50).bind fun o53 =>
  (fXX1_put4_11 nb (x2 + (76 : Int32)) (1 : Int32) o53).bind fun o56 =>
  (fXX1_put4_11 nb (x2 + (84 : Int32)) (11 : Int32) o56).bind fun o59 =>
  (fXX1_put2_11 nb (x2 + (88 : Int32)) (128 : Int32) o59).bind fun o62 =>
  (fXX1_put4_11 nb (x2 + (96 : Int32)) (2 : Int32) o62).bind fun o65 =>
  (fXX1_put4_11 nb (x2 + (104 : Int32)) x3 o65).bind fun o68 =>
  some o68
else
  (fXX3_freeIn_4 nb x6 o1.2).bind fun o71 =>
  (fXX3_freeIn_5 nb x6 o71.2).bind fun o74 =>
  (fXX6_describe_9_11 nb ((x2 + (1024 : Int32)) + ((32 : Int32) * x6)) x6 o74.2).bind fun o77 =>
  k9 (x2, x3, (x4 + o71.1), (x5 + o74.1), (x6 + (1 : Int32)), o77)
def fXX6_sketch_9_11_0 (nb : Nat) (x2 : Int32) (x3 : Int32) (σ : XS) : Option XS :=
lfix (fun k9 t => fXX6_sketch_9_11_9 nb k9 t.1 t.2.1 t.2.2.1 t.2.2.2.1 t.2.2.2.2.1 t.2.2.2.2.2) FU (x2, x3, (0 : Int32), (0 : Int32), (0 : Int32), σ)
def fXX6_sketch_9_11 (nb : Nat) (x2 : Int32) (x3 : Int32) (σ : XS) : Option XS := fXX6_sketch_9_11_0 nb x2 x3 σ
def fXX1_get_11_0 (nb : Nat) (x1 : Int32) (σ : XS) : Option (Int32 × XS) :=
if x1 < 0 then
  some ((0 : Int32), σ)
else
  if (Int32.ofNat 2048) ≤ x1 then
    some ((0 : Int32), σ)
  else
    if x1 < 0 ∨ 2048 ≤ x1.toNatClampNeg then none else
    some (((σ.2.1 2 x1.toNatClampNeg) &&& (255 : Int32)), σ)
def fXX1_get_11 (nb : Nat) (x1 : Int32) (σ : XS) : Option (Int32 × XS) := fXX1_get_11_0 nb x1 σ
def fXX7_headsHold_10_73 (nb : Nat) (k40 : (Int32 × XS) → Option (Int32 × XS)) (k73 : (Int32 × Int32 × Int32 × XS) → Option (Int32 × XS)) (x1 : Int32) (x2 : Int32) (x3 : Int32) (σ : XS) : Option (Int32 × XS) :=
(fXX1_length_11 nb σ).bind fun o23 =>
if o23.1 ≤ x3 then
  k40 ((x1 + (1 : Int32)), o23.2)
else
  (fXX1_get_1 nb (x2 + x3) o23.2).bind fun o27 =>
  (fXX1_get_11 nb x3 o27.2).bind fun o30 =>
  if o27.1 = o30.1 then
    k73 (x1, x2, (x3 + (1 : Int32)), o30.2)
  else
    some ((0 : Int32), o30.2)
def fXX7_headsHold_10_40 (nb : Nat) (k40 : (Int32 × XS) → Option (Int32 × XS)) (x1 : Int32) (σ : XS) : Option (Int32 × XS) :=
(fXX2_groups_3 nb σ).bind fun o13 =>
if o13.1 ≤ x1 then
  some ((1 : Int32), o13.2)
else
  (fXX1_put2_11 nb (90 : Int32) x1 o13.2).bind fun o17 =>
  (fXX2_partAt_3 nb x1 (0 : Int32) o17).bind fun o20 =>
  lfix (fun k73 t => fXX7_headsHold_10_73 nb k40 k73 t.1 t.2.1 t.2.2.1 t.2.2.2) FU (x1, o20.1, (0 : Int32), o20.2)
def fXX7_headsHold_10_0 (nb : Nat) (σ : XS) : Option (Int32 × XS) :=
(fXX1_length_11 nb σ).bind fun o1 =>
(fXX1_fill_11 nb (0 : Int32) o1.1 (0 : Int32) o1.2).bind fun o4 =>
(fXX1_get4_1 nb (1128 : Int32) o4).bind fun o7 =>
(fXX6_sketch_9_11 nb (0 : Int32) o7.1 o7.2).bind fun o10 =>
lfix (fun k40 t => fXX7_headsHold_10_40 nb k40 t.1 t.2) FU ((0 : Int32), o10)
def fXX7_headsHold_10 (nb : Nat) (σ : XS) : Option (Int32 × XS) := fXX7_headsHold_10_0 nb σ
def fXX7_allHolds_10_0 (nb : Nat) (x1 : Int32) (σ : XS) : Option (Int32 × XS) :=
(fXX7_claimFixed_10 nb σ).bind fun o1 =>
(fXJ2_fill__14 nb (0 : Int32) o1).bind fun o4 =>
(fXJ2_fill__15 nb (0 : Int32) o4).bind fun o7 =>
(fXX7_inodesHold_10 nb o7).bind fun o10 =>
if o10.1 = 0 then
  some ((0 : Int32), o10.2)
else
  (fXX7_directoriesHold_10 nb o10.2).bind fun o14 =>
  if o14.1 = 0 then
    some ((0 : Int32), o14.2)
  else
    (fXX7_treeHolds_10 nb o14.2).bind fun o18 =>
    if o18.1 = 0 then
      some ((0 : Int32), o18.2)
    else
      (fXX7_mapsHold_10 nb o18.2).bind fun o22 =>
      if o22.1 = 0 then
        some ((0 : Int32), o22.2)
      else
        (fXX7_headsHold_10 nb o22.2).bind fun o26 =>
        if o26.1 = 0 then
          some ((0 : Int32), o26.2)
        else
          (fXX4_isDirectory_6 nb x1 o26.2).bind fun o30 =>
          if o30.1 = 0 then
            some ((0 : Int32), o30.2)
          else
            some ((1 : Int32), o30.2)
def fXX7_allHolds_10 (nb : Nat) (x1 : Int32) (σ : XS) : Option (Int32 × XS) := fXX7_allHolds_10_0 nb x1 σ
def fXX0_fault_0_0 (nb : Nat) (σ : XS) : Option (Int32 × XS) :=
if (σ.1 0) = 0 then
  some ((-1 : Int32), σ)
else
  (fXX7_allHolds_10 nb (σ.1 1) σ).bind fun o2 =>
  if o2.1 = 0 then
    some ((1 : Int32), o2.2)
  else
    some ((0 : Int32), o2.2)
def fXX0_fault_0 (nb : Nat) (σ : XS) : Option (Int32 × XS) := fXX0_fault_0_0 nb σ
def fXX3_free_5_0 (nb : Nat) (σ : XS) : Option (Int32 × XS) :=
(fXX1_get4_1 nb ((1024 : Int32) + (16 : Int32)) σ).bind fun o1 =>
some (o1.1, o1.2)
def fXX3_free_5 (nb : Nat) (σ : XS) : Option (Int32 × XS) := fXX3_free_5_0 nb σ
def fXX0_many_0_0 (nb : Nat) (x1 : Int32) (σ : XS) : Option (Int32 × XS) :=
if (σ.1 0) = 0 then
  some ((-1 : Int32), σ)
else
  if x1 = (0 : Int32) then
    (fXX3_free_4 nb σ).bind fun o3 =>
    some (o3.1, o3.2)
  else if x1 = (1 : Int32) then
    (fXX3_free_5 nb σ).bind fun o7 =>
    some (o7.1, o7.2)
  else if x1 = (2 : Int32) then
    (fXX2_groups_3 nb σ).bind fun o11 =>
    some (o11.1, o11.2)
  else if x1 = (3 : Int32) then
    (fXX2_groupInodes_3 nb σ).bind fun o15 =>
    some (o15.1, o15.2)
  else 
    some ((-1 : Int32), σ)
def fXX0_many_0 (nb : Nat) (x1 : Int32) (σ : XS) : Option (Int32 × XS) := fXX0_many_0_0 nb x1 σ
def fXX0_needVolume_0_0 (nb : Nat) (σ : XS) : Option (Nat × XS) :=
if (σ.1 0) = 0 then
  some (1, σ)
else
  some (0, σ)
def fXX0_needVolume_0 (nb : Nat) (σ : XS) : Option (Nat × XS) := fXX0_needVolume_0_0 nb σ
def fXX5_itemCount_7_23 (nb : Nat) (k4 : (Int32 × Int32 × XS) → Option (Int32 × XS)) (x1 : Int32) (x2 : Int32) (σ : XS) : Option (Int32 × XS) :=
k4 (x1, (x2 + (1 : Int32)), σ)
def fXX5_itemCount_7_4 (nb : Nat) (k4 : (Int32 × Int32 × XS) → Option (Int32 × XS)) (x1 : Int32) (x2 : Int32) (σ : XS) : Option (Int32 × XS) :=
if (σ.1 7) ≤ x2 then
  some (x1, σ)
else
  (fXX5_inodeOf_7 nb x2 σ).bind fun o2 =>
  if o2.1 = 0 then
    fXX5_itemCount_7_23 nb k4 x1 x2 o2.2
  else
    fXX5_itemCount_7_23 nb k4 (x1 + (1 : Int32)) x2 o2.2
def fXX5_itemCount_7_0 (nb : Nat) (σ : XS) : Option (Int32 × XS) :=
lfix (fun k4 t => fXX5_itemCount_7_4 nb k4 t.1 t.2.1 t.2.2) FU ((0 : Int32), (2 : Int32), σ)
def fXX5_itemCount_7 (nb : Nat) (σ : XS) : Option (Int32 × XS) := fXX5_itemCount_7_0 nb σ
def fXX0_items_0_0 (nb : Nat) (σ : XS) : Option (Nat × Int32 × XS) :=
(fXX0_needVolume_0 nb σ).bind fun o1 =>
if o1.1 = 0 then
  (fXX5_read_7 nb (o1.2.1 1) o1.2).bind fun o5 =>
  (fXX5_itemCount_7 nb o5).bind fun o8 =>
  some (0, o8.1, o8.2)
else some (o1.1, (0 : Int32), o1.2)
def fXX0_items_0 (nb : Nat) (σ : XS) : Option (Nat × Int32 × XS) := fXX0_items_0_0 nb σ
def fXX5_placeOf_7_30 (nb : Nat) (k4 : (Int32 × Int32 × Int32 × XS) → Option (Int32 × XS)) (x1 : Int32) (x2 : Int32) (x3 : Int32) (σ : XS) : Option (Int32 × XS) :=
k4 (x1, x2, (x3 + (1 : Int32)), σ)
def fXX5_placeOf_7_4 (nb : Nat) (k4 : (Int32 × Int32 × Int32 × XS) → Option (Int32 × XS)) (x1 : Int32) (x2 : Int32) (x3 : Int32) (σ : XS) : Option (Int32 × XS) :=
if (σ.1 7) ≤ x3 then
  some ((-1 : Int32), σ)
else
  (fXX5_inodeOf_7 nb x3 σ).bind fun o2 =>
  if o2.1 = 0 then
    fXX5_placeOf_7_30 nb k4 x1 x2 x3 o2.2
  else
    if x2 = x1 then
      some (x3, o2.2)
    else
      fXX5_placeOf_7_30 nb k4 x1 (x2 + (1 : Int32)) x3 o2.2
def fXX5_placeOf_7_0 (nb : Nat) (x1 : Int32) (σ : XS) : Option (Int32 × XS) :=
lfix (fun k4 t => fXX5_placeOf_7_4 nb k4 t.1 t.2.1 t.2.2.1 t.2.2.2) FU (x1, (0 : Int32), (2 : Int32), σ)
def fXX5_placeOf_7 (nb : Nat) (x1 : Int32) (σ : XS) : Option (Int32 × XS) := fXX5_placeOf_7_0 nb x1 σ
def fXX0_itemHere_0_0 (nb : Nat) (x1 : Int32) (σ : XS) : Option (Nat × Int32 × XS) :=
(fXX0_needVolume_0 nb σ).bind fun o1 =>
if o1.1 = 0 then
  (fXX5_read_7 nb (o1.2.1 1) o1.2).bind fun o5 =>
  (fXX5_placeOf_7 nb x1 o5).bind fun o8 =>
  if o8.1 = (-1 : Int32) then
    some (2, (0 : Int32), o8.2)
  else
    some (0, o8.1, o8.2)
else some (o1.1, (0 : Int32), o1.2)
def fXX0_itemHere_0 (nb : Nat) (x1 : Int32) (σ : XS) : Option (Nat × Int32 × XS) := fXX0_itemHere_0_0 nb x1 σ
def fXX0_letter_0_0 (nb : Nat) (x1 : Int32) (x2 : Int32) (σ : XS) : Option (Nat × Int32 × XS) :=
(fXX0_itemHere_0 nb x1 σ).bind fun o1 =>
if o1.1 = 0 then
  (fXX5_letterOf_7 nb o1.2.1 x2 o1.2.2).bind fun o5 =>
  some (0, o5.1, o5.2)
else some (o1.1, (0 : Int32), o1.2.2)
def fXX0_letter_0 (nb : Nat) (x1 : Int32) (x2 : Int32) (σ : XS) : Option (Nat × Int32 × XS) := fXX0_letter_0_0 nb x1 x2 σ
def fXX4_time_6_0 (nb : Nat) (x1 : Int32) (x2 : Int32) (σ : XS) : Option (Int64 × XS) :=
(fXX2_inodeAt_3 nb x1 σ).bind fun o1 =>
(fXX1_get4_1 nb ((o1.1 + (8 : Int32)) + ((4 : Int32) * x2)) o1.2).bind fun o4 =>
some ((o4.1.toInt64 &&& (4294967295 : Int64)), o4.2)
def fXX4_time_6 (nb : Nat) (x1 : Int32) (x2 : Int32) (σ : XS) : Option (Int64 × XS) := fXX4_time_6_0 nb x1 x2 σ
def fXX0_about_0_0 (nb : Nat) (x1 : Int32) (x2 : Int32) (σ : XS) : Option (Nat × Int64 × XS) :=
(fXX0_itemHere_0 nb x1 σ).bind fun o1 =>
if o1.1 = 0 then
  (fXX5_inodeOf_7 nb o1.2.1 o1.2.2).bind fun o5 =>
  if x2 = (0 : Int32) then
    some (0, o5.1.toInt64, o5.2)
  else if x2 = (1 : Int32) then
    (fXX4_isDirectory_6 nb o5.1 o5.2).bind fun o10 =>
    if o10.1 = 0 then
      some (0, (0 : Int64), o10.2)
    else
      some (0, (1 : Int64), o10.2)
  else if x2 = (2 : Int32) then
    (fXX4_size_6 nb o5.1 o5.2).bind fun o15 =>
    some (0, o15.1.toInt64, o15.2)
  else if x2 = (3 : Int32) then
    (fXX4_links_6 nb o5.1 o5.2).bind fun o19 =>
    some (0, o19.1.toInt64, o19.2)
  else if x2 = (4 : Int32) then
    (fXX4_time_6 nb o5.1 (x2 - (4 : Int32)) o5.2).bind fun o23 =>
    some (0, o23.1, o23.2)
  else if x2 = (5 : Int32) then
    (fXX4_time_6 nb o5.1 (x2 - (4 : Int32)) o5.2).bind fun o27 =>
    some (0, o27.1, o27.2)
  else if x2 = (6 : Int32) then
    (fXX4_time_6 nb o5.1 (x2 - (4 : Int32)) o5.2).bind fun o31 =>
    some (0, o31.1, o31.2)
  else 
    some (3, (0 : Int64), o5.2)
else some (o1.1, (0 : Int64), o1.2.2)
def fXX0_about_0 (nb : Nat) (x1 : Int32) (x2 : Int32) (σ : XS) : Option (Nat × Int64 × XS) := fXX0_about_0_0 nb x1 x2 σ
def fXX0_content_0_0 (nb : Nat) (x1 : Int32) (x2 : Int32) (σ : XS) : Option (Nat × Int32 × XS) :=
(fXX0_itemHere_0 nb x1 σ).bind fun o1 =>
if o1.1 = 0 then
  (fXX5_inodeOf_7 nb o1.2.1 o1.2.2).bind fun o5 =>
  (fXX4_isDirectory_6 nb o5.1 o5.2).bind fun o8 =>
  if o8.1 = 0 then
    if x2 < 0 then
      some (0, (-1 : Int32), o8.2)
    else
      (fXX4_size_6 nb o5.1 o8.2).bind fun o13 =>
      if x2 < o13.1 then
        (fXX4_blockOf_6 nb o5.1 (x2 / (1024 : Int32)) o13.2).bind fun o17 =>
        (fXX1_get_1 nb ((o17.1 * (1024 : Int32)) + (x2 - x2 / (1024 : Int32) * (1024 : Int32))) o17.2).bind fun o20 =>
        some (0, o20.1, o20.2)
      else
        some (0, (-1 : Int32), o13.2)
  else
    some (0, (-1 : Int32), o8.2)
else some (o1.1, (0 : Int32), o1.2.2)
def fXX0_content_0 (nb : Nat) (x1 : Int32) (x2 : Int32) (σ : XS) : Option (Nat × Int32 × XS) := fXX0_content_0_0 nb x1 x2 σ
def fXX0_enter_0_0 (nb : Nat) (x1 : Int32) (σ : XS) : Option (Nat × Int32 × XS) :=
(fXX0_itemHere_0 nb x1 σ).bind fun o1 =>
if o1.1 = 0 then
  (fXX5_inodeOf_7 nb o1.2.1 o1.2.2).bind fun o5 =>
  (fXX4_isDirectory_6 nb o5.1 o5.2).bind fun o8 =>
  if o8.1 = 0 then
    some (3, (0 : Int32), o8.2)
  else
    (fXX5_read_7 nb o5.1 (stS o8.2 1 o5.1)).bind fun o12 =>
    (fXX5_itemCount_7 nb o12).bind fun o15 =>
    some (0, o15.1, o15.2)
else some (o1.1, (0 : Int32), o1.2.2)
def fXX0_enter_0 (nb : Nat) (x1 : Int32) (σ : XS) : Option (Nat × Int32 × XS) := fXX0_enter_0_0 nb x1 σ
def fXX0_up_0_0 (nb : Nat) (σ : XS) : Option (Nat × Int32 × XS) :=
(fXX0_needVolume_0 nb σ).bind fun o1 =>
if o1.1 = 0 then
  if (o1.2.1 1) = (2 : Int32) then
    some (0, (0 : Int32), o1.2)
  else
    (fXX5_read_7 nb (o1.2.1 1) o1.2).bind fun o6 =>
    (fXX5_parent_7 nb o6).bind fun o9 =>
    some (0, (1 : Int32), (stS o9.2 1 o9.1))
else some (o1.1, (0 : Int32), o1.2)
def fXX0_up_0 (nb : Nat) (σ : XS) : Option (Nat × Int32 × XS) := fXX0_up_0_0 nb σ
def fXX8_drain_16_0 (nb : Nat) (σ : XS) : Option (Int32 × XS) :=
some ((σ.1 8), (stS σ 8 (0 : Int32)))
def fXX8_drain_16 (nb : Nat) (σ : XS) : Option (Int32 × XS) := fXX8_drain_16_0 nb σ
def fXX8_valueAt_16_0 (nb : Nat) (x1 : Int32) (σ : XS) : Option (Int32 × XS) :=
if x1 < 0 then
  some ((0 : Int32), σ)
else
  if (Int32.ofNat 4096) ≤ x1 then
    some ((0 : Int32), σ)
  else
    if x1 < 0 ∨ 4096 ≤ x1.toNatClampNeg then none else
    some (((σ.2.1 6 x1.toNatClampNeg) &&& (255 : Int32)), σ)
def fXX8_valueAt_16 (nb : Nat) (x1 : Int32) (σ : XS) : Option (Int32 × XS) := fXX8_valueAt_16_0 nb x1 σ
def fXX8_isName_16_82 (nb : Nat) (y0 : Int32) (σ : XS) : Option (Int32 × XS) :=
if y0 = 0 then
  some ((1 : Int32), σ)
else
  some ((0 : Int32), σ)
def fXX8_isName_16_81 (nb : Nat) (σ : XS) : Option (Int32 × XS) :=
fXX8_isName_16_82 nb (0 : Int32) σ
def fXX8_isName_16_77 (nb : Nat) (σ : XS) : Option (Int32 × XS) :=
fXX8_isName_16_82 nb (1 : Int32) σ
def fXX8_isName_16_16 (nb : Nat) (k16 : (Int32 × Int32 × XS) → Option (Int32 × XS)) (x1 : Int32) (x2 : Int32) (σ : XS) : Option (Int32 × XS) :=
if x1 ≤ x2 then
  (fXX8_valueAt_16 nb (0 : Int32) σ).bind fun o4 =>
  if o4.1 = (46 : Int32) then
    if x1 = (1 : Int32) then
      fXX8_isName_16_77 nb o4.2
    else
      if x1 = (2 : Int32) then
        (fXX8_valueAt_16 nb (1 : Int32) o4.2).bind fun o11 =>
        if o11.1 = (46 : Int32) then
          fXX8_isName_16_77 nb o11.2
        else
          fXX8_isName_16_81 nb o11.2
      else
        fXX8_isName_16_81 nb o4.2
  else
    fXX8_isName_16_81 nb o4.2
else
  (fXX8_valueAt_16 nb x2 σ).bind fun o15 =>
  if o15.1 = 0 then
    some ((0 : Int32), o15.2)
  else
    (fXX8_valueAt_16 nb x2 o15.2).bind fun o19 =>
    if o19.1 = (47 : Int32) then
      some ((0 : Int32), o19.2)
    else
      k16 (x1, (x2 + (1 : Int32)), o19.2)
def fXX8_isName_16_0 (nb : Nat) (x1 : Int32) (σ : XS) : Option (Int32 × XS) :=
if x1 < (1 : Int32) then
  some ((0 : Int32), σ)
else
  if x1 ≤ (255 : Int32) then
    lfix (fun k16 t => fXX8_isName_16_16 nb k16 t.1 t.2.1 t.2.2) FU (x1, (0 : Int32), σ)
  else
    some ((0 : Int32), σ)
def fXX8_isName_16 (nb : Nat) (x1 : Int32) (σ : XS) : Option (Int32 × XS) := fXX8_isName_16_0 nb x1 σ
def fXX5_isNamed_7_16_14 (nb : Nat) (k14 : (Int32 × Int32 × Int32 × XS) → Option (Int32 × XS)) (x1 : Int32) (x3 : Int32) (x4 : Int32) (σ : XS) : Option (Int32 × XS) :=
if x3 ≤ x4 then
  some ((1 : Int32), σ)
else
  (fXX5_letterOf_7 nb x1 x4 σ).bind fun o6 =>
  (fXX8_valueAt_16 nb x4 o6.2).bind fun o9 =>
  if o6.1 = o9.1 then
    k14 (x1, x3, (x4 + (1 : Int32)), o9.2)
  else
    some ((0 : Int32), o9.2)
def fXX5_isNamed_7_16_0 (nb : Nat) (x1 : Int32) (x3 : Int32) (σ : XS) : Option (Int32 × XS) :=
(fXX5_nameLengthOf_7 nb x1 σ).bind fun o1 =>
if o1.1 = x3 then
  lfix (fun k14 t => fXX5_isNamed_7_16_14 nb k14 t.1 t.2.1 t.2.2.1 t.2.2.2) FU (x1, x3, (0 : Int32), o1.2)
else
  some ((0 : Int32), o1.2)
def fXX5_isNamed_7_16 (nb : Nat) (x1 : Int32) (x3 : Int32) (σ : XS) : Option (Int32 × XS) := fXX5_isNamed_7_16_0 nb x1 x3 σ
def fXX5_has_7_16_30 (nb : Nat) (k2 : (Int32 × Int32 × XS) → Option (Int32 × XS)) (x2 : Int32) (x3 : Int32) (σ : XS) : Option (Int32 × XS) :=
k2 (x2, (x3 + (1 : Int32)), σ)
def fXX5_has_7_16_2 (nb : Nat) (k2 : (Int32 × Int32 × XS) → Option (Int32 × XS)) (x2 : Int32) (x3 : Int32) (σ : XS) : Option (Int32 × XS) :=
if (σ.1 7) ≤ x3 then
  some ((0 : Int32), σ)
else
  (fXX5_inodeOf_7 nb x3 σ).bind fun o2 =>
  if o2.1 = 0 then
    fXX5_has_7_16_30 nb k2 x2 x3 o2.2
  else
    (fXX5_isNamed_7_16 nb x3 x2 o2.2).bind fun o6 =>
    if o6.1 = 0 then
      fXX5_has_7_16_30 nb k2 x2 x3 o6.2
    else
      some ((1 : Int32), o6.2)
def fXX5_has_7_16_0 (nb : Nat) (x2 : Int32) (σ : XS) : Option (Int32 × XS) :=
lfix (fun k2 t => fXX5_has_7_16_2 nb k2 t.1 t.2.1 t.2.2) FU (x2, (2 : Int32), σ)
def fXX5_has_7_16 (nb : Nat) (x2 : Int32) (σ : XS) : Option (Int32 × XS) := fXX5_has_7_16_0 nb x2 σ
def fXX5_roomFor_7_7 (nb : Nat) (k7 : (Int32 × Int32 × XS) → Option (Int32 × XS)) (x2 : Int32) (x3 : Int32) (σ : XS) : Option (Int32 × XS) :=
if (σ.1 7) ≤ x3 then
  some ((-1 : Int32), σ)
else
  (fXX5_lengthOf_7 nb x3 σ).bind fun o5 =>
  (fXX5_usedBy_7 nb x3 o5.2).bind fun o8 =>
  if (o5.1 - o8.1) < x2 then
    k7 (x2, (x3 + (1 : Int32)), o8.2)
  else
    some (x3, o8.2)
def fXX5_roomFor_7_0 (nb : Nat) (x1 : Int32) (σ : XS) : Option (Int32 × XS) :=
(fXX5_spaceFor nb x1 σ).bind fun o1 =>
lfix (fun k7 t => fXX5_roomFor_7_7 nb k7 t.1 t.2.1 t.2.2) FU (o1.1, (0 : Int32), o1.2)
def fXX5_roomFor_7 (nb : Nat) (x1 : Int32) (σ : XS) : Option (Int32 × XS) := fXX5_roomFor_7_0 nb x1 σ
def fXX5_split_7_0 (nb : Nat) (x1 : Int32) (σ : XS) : Option (Int32 × XS) :=
(fXX5_entryAt_7 nb x1 σ).bind fun o1 =>
(fXX5_usedBy_7 nb x1 o1.2).bind fun o4 =>
(fXX5_lengthOf_7 nb x1 o4.2).bind fun o7 =>
(fXX1_put2_1 nb (o1.1 + (4 : Int32)) o4.1 o7.2).bind fun o10 =>
(fXX1_put2_1 nb ((o1.1 + o4.1) + (4 : Int32)) (o7.1 - o4.1) o10).bind fun o13 =>
some ((o1.1 + o4.1), o13)
def fXX5_split_7 (nb : Nat) (x1 : Int32) (σ : XS) : Option (Int32 × XS) := fXX5_split_7_0 nb x1 σ
def fXX5_fillEntry_7_16_85 (nb : Nat) (k85 : (Int32 × Int32 × Int32 × XS) → Option XS) (x1 : Int32) (x5 : Int32) (x7 : Int32) (σ : XS) : Option XS :=
if x5 ≤ x7 then
  some σ
else
  (fXX8_valueAt_16 nb x7 σ).bind fun o24 =>
  (fXX1_put_1 nb ((x1 + (8 : Int32)) + x7) o24.1 o24.2).bind fun o27 =>
  k85 (x1, x5, (x7 + (1 : Int32)), o27)
def fXX5_fillEntry_7_16_79 (nb : Nat) (x1 : Int32) (x5 : Int32) (y0 : Int32) (y1 : Int32) (σ : XS) : Option XS :=
(fXX1_put_1 nb y1 y0 σ).bind fun o20 =>
lfix (fun k85 t => fXX5_fillEntry_7_16_85 nb k85 t.1 t.2.1 t.2.2.1 t.2.2.2) FU (x1, x5, (0 : Int32), o20)
def fXX5_fillEntry_7_16_0 (nb : Nat) (x1 : Int32) (x2 : Int32) (x3 : Int32) (x5 : Int32) (σ : XS) : Option XS :=
(fXX1_get2_1 nb (x1 + (4 : Int32)) σ).bind fun o1 =>
(fXX5_spaceFor nb x5 o1.2).bind fun o4 =>
(fXX1_fill_1 nb x1 (x1 + o4.1) (0 : Int32) o4.2).bind fun o7 =>
(fXX1_put4_1 nb x1 x2 o7).bind fun o10 =>
(fXX1_put2_1 nb (x1 + (4 : Int32)) o1.1 o10).bind fun o13 =>
(fXX1_put_1 nb (x1 + (6 : Int32)) x5 o13).bind fun o16 =>
if x3 = 0 then
  fXX5_fillEntry_7_16_79 nb x1 x5 (1 : Int32) (x1 + (7 : Int32)) o16
else
  fXX5_fillEntry_7_16_79 nb x1 x5 (2 : Int32) (x1 + (7 : Int32)) o16
def fXX5_fillEntry_7_16 (nb : Nat) (x1 : Int32) (x2 : Int32) (x3 : Int32) (x5 : Int32) (σ : XS) : Option XS := fXX5_fillEntry_7_16_0 nb x1 x2 x3 x5 σ
def fXX5_numberOf_7_34 (nb : Nat) (k4 : (Int32 × Int32 × Int32 × XS) → Option (Int32 × XS)) (x1 : Int32) (x2 : Int32) (x3 : Int32) (σ : XS) : Option (Int32 × XS) :=
k4 (x1, x2, (x3 + (1 : Int32)), σ)
def fXX5_numberOf_7_4 (nb : Nat) (k4 : (Int32 × Int32 × Int32 × XS) → Option (Int32 × XS)) (x1 : Int32) (x2 : Int32) (x3 : Int32) (σ : XS) : Option (Int32 × XS) :=
if (σ.1 7) ≤ x3 then
  some ((-1 : Int32), σ)
else
  (fXX5_entryAt_7 nb x3 σ).bind fun o2 =>
  if o2.1 = x1 then
    some (x2, o2.2)
  else
    (fXX5_inodeOf_7 nb x3 o2.2).bind fun o6 =>
    if o6.1 = 0 then
      fXX5_numberOf_7_34 nb k4 x1 x2 x3 o6.2
    else
      fXX5_numberOf_7_34 nb k4 x1 (x2 + (1 : Int32)) x3 o6.2
def fXX5_numberOf_7_0 (nb : Nat) (x1 : Int32) (σ : XS) : Option (Int32 × XS) :=
lfix (fun k4 t => fXX5_numberOf_7_4 nb k4 t.1 t.2.1 t.2.2.1 t.2.2.2) FU (x1, (0 : Int32), (2 : Int32), σ)
def fXX5_numberOf_7 (nb : Nat) (x1 : Int32) (σ : XS) : Option (Int32 × XS) := fXX5_numberOf_7_0 nb x1 σ
def fXX4_addLinks_6_0 (nb : Nat) (x1 : Int32) (x2 : Int32) (σ : XS) : Option XS :=
(fXX2_inodeAt_3 nb x1 σ).bind fun o1 =>
(fXX1_get2_1 nb (o1.1 + (26 : Int32)) o1.2).bind fun o4 =>
(fXX1_put2_1 nb (o1.1 + (26 : Int32)) (o4.1 + x2) o4.2).bind fun o7 =>
some o7
def fXX4_addLinks_6 (nb : Nat) (x1 : Int32) (x2 : Int32) (σ : XS) : Option XS := fXX4_addLinks_6_0 nb x1 x2 σ
def fXX5_open_7_0 (nb : Nat) (x1 : Int32) (σ : XS) : Option (Int32 × XS) :=
(fXX1_put2_1 nb ((x1 * (1024 : Int32)) + (4 : Int32)) (1024 : Int32) σ).bind fun o1 =>
some ((x1 * (1024 : Int32)), o1)
def fXX5_open_7 (nb : Nat) (x1 : Int32) (σ : XS) : Option (Int32 × XS) := fXX5_open_7_0 nb x1 σ
def fXX4_costOf_6_0 (nb : Nat) (x1 : Int32) (x2 : Int32) (σ : XS) : Option (Int32 × XS) :=
(fXX4_size_6 nb x1 σ).bind fun o1 =>
(fXX4_blocksFor nb (o1.1 + x2) o1.2).bind fun o4 =>
(fXX4_withIndirect nb o4.1 o4.2).bind fun o7 =>
(fXX4_blocksFor nb o1.1 o7.2).bind fun o10 =>
(fXX4_withIndirect nb o10.1 o10.2).bind fun o13 =>
some ((o7.1 - o13.1), o13.2)
def fXX4_costOf_6 (nb : Nat) (x1 : Int32) (x2 : Int32) (σ : XS) : Option (Int32 × XS) := fXX4_costOf_6_0 nb x1 x2 σ
def fXX0_make_0_49 (nb : Nat) (σ : XS) : Option (Nat × Int32 × XS) :=
some (3, (0 : Int32), σ)
def fXX0_make_0_126 (nb : Nat) (σ : XS) : Option (Nat × Int32 × XS) :=
some (4, (0 : Int32), σ)
def fXX0_make_0_256 (nb : Nat) (x6 : Int32) (σ : XS) : Option (Nat × Int32 × XS) :=
(fXX5_read_7 nb (σ.1 1) σ).bind fun o215 =>
(fXX5_numberOf_7 nb x6 o215).bind fun o218 =>
some (0, o218.1, o218.2)
def fXX0_make_0_179 (nb : Nat) (x1 : Int32) (x2 : Int32) (x5 : Int32) (y0 : Int32) (σ : XS) : Option (Nat × Int32 × XS) :=
(fXX5_fillEntry_7_16 nb y0 x5 x1 x2 σ).bind fun o208 =>
(fXX4_begin_6 nb x5 x1 o208).bind fun o211 =>
if x1 = 0 then
  fXX0_make_0_256 nb y0 o211
else
  (fXX4_countDirectories_6 nb x5 (1 : Int32) o211).bind fun o221 =>
  (fXX4_addLinks_6 nb (o221.1 1) (1 : Int32) o221).bind fun o224 =>
  (fXX4_addDirectoryBlock_6 nb x5 o224).bind fun o227 =>
  (fXX5_layDots_7 nb o227.1 x5 (o227.2.1 1) o227.2).bind fun o230 =>
  fXX0_make_0_256 nb y0 o230
def fXX0_make_0_103 (nb : Nat) (x1 : Int32) (x2 : Int32) (x3 : Int32) (x4 : Int32) (σ : XS) : Option (Nat × Int32 × XS) :=
(fXX3_free_5 nb σ).bind fun o193 =>
if o193.1 < (1 : Int32) then
  fXX0_make_0_126 nb o193.2
else
  (fXX3_free_4 nb o193.2).bind fun o197 =>
  if x4 ≤ o197.1 then
    (fXX3_take_5 nb o197.2).bind fun o201 =>
    if x3 = (-1 : Int32) then
      (fXX4_addDirectoryBlock_6 nb (o201.2.1 1) o201.2).bind fun o233 =>
      (fXX5_open_7 nb o233.1 o233.2).bind fun o236 =>
      fXX0_make_0_179 nb x1 x2 o201.1 o236.1 o236.2
    else
      (fXX5_split_7 nb x3 o201.2).bind fun o205 =>
      fXX0_make_0_179 nb x1 x2 o201.1 o205.1 o205.2
  else
    fXX0_make_0_126 nb o197.2
def fXX0_make_0_77 (nb : Nat) (x1 : Int32) (x2 : Int32) (x3 : Int32) (y0 : Int32) (σ : XS) : Option (Nat × Int32 × XS) :=
if x3 = (-1 : Int32) then
  (fXX4_costOf_6 nb (σ.1 1) (1024 : Int32) σ).bind fun o239 =>
  fXX0_make_0_103 nb x1 x2 x3 (y0 + o239.1) o239.2
else
  fXX0_make_0_103 nb x1 x2 x3 y0 σ
def fXX0_make_0_0 (nb : Nat) (x1 : Int32) (σ : XS) : Option (Nat × Int32 × XS) :=
(fXX8_drain_16 nb σ).bind fun o170 =>
(fXX0_needVolume_0 nb o170.2).bind fun o173 =>
if o173.1 = 0 then
  (fXX5_read_7 nb (o173.2.1 1) o173.2).bind fun o177 =>
  (fXX8_isName_16 nb o170.1 o177).bind fun o180 =>
  if o180.1 = 0 then
    fXX0_make_0_49 nb o180.2
  else
    (fXX5_has_7_16 nb o170.1 o180.2).bind fun o184 =>
    if o184.1 = 0 then
      (fXX5_roomFor_7 nb o170.1 o184.2).bind fun o188 =>
      if x1 = 0 then
        fXX0_make_0_77 nb x1 o170.1 o188.1 (0 : Int32) o188.2
      else
        fXX0_make_0_77 nb x1 o170.1 o188.1 (1 : Int32) o188.2
    else
      fXX0_make_0_49 nb o184.2
else some (o173.1, (0 : Int32), o173.2)
def fXX0_make_0 (nb : Nat) (x1 : Int32) (σ : XS) : Option (Nat × Int32 × XS) := fXX0_make_0_0 nb x1 σ
def fXX0_fileAt_0_0 (nb : Nat) (x1 : Int32) (σ : XS) : Option (Nat × Int32 × XS) :=
(fXX5_inodeOf_7 nb x1 σ).bind fun o1 =>
(fXX4_isDirectory_6 nb o1.1 o1.2).bind fun o4 =>
if o4.1 = 0 then
  some (0, o1.1, o4.2)
else
  some (3, (0 : Int32), o4.2)
def fXX0_fileAt_0 (nb : Nat) (x1 : Int32) (σ : XS) : Option (Nat × Int32 × XS) := fXX0_fileAt_0_0 nb x1 σ
def fXX0_needBlocks_0_0 (nb : Nat) (x1 : Int32) (σ : XS) : Option (Nat × XS) :=
(fXX3_free_4 nb σ).bind fun o1 =>
if x1 ≤ o1.1 then
  some (0, o1.2)
else
  some (4, o1.2)
def fXX0_needBlocks_0 (nb : Nat) (x1 : Int32) (σ : XS) : Option (Nat × XS) := fXX0_needBlocks_0_0 nb x1 σ
def fXX4_append_6_16_114 (nb : Nat) (k72 : (Int32 × Int32 × Int32 × Int32 × Int32 × XS) → Option (Int32 × XS)) (x1 : Int32) (x3 : Int32) (x4 : Int32) (x6 : Int32) (x7 : Int32) (x8 : Int32) (σ : XS) : Option (Int32 × XS) :=
(fXX8_valueAt_16 nb x7 σ).bind fun o19 =>
(fXX1_put_1 nb (x6 + x8) o19.1 o19.2).bind fun o22 =>
k72 (x1, x3, x4, x6, (x7 + (1 : Int32)), o22)
def fXX4_append_6_16_72 (nb : Nat) (k72 : (Int32 × Int32 × Int32 × Int32 × Int32 × XS) → Option (Int32 × XS)) (x1 : Int32) (x3 : Int32) (x4 : Int32) (x6 : Int32) (x7 : Int32) (σ : XS) : Option (Int32 × XS) :=
if x3 ≤ x7 then
  some ((x4 + x3), σ)
else
  if ((x4 + x7) - (x4 + x7) / (1024 : Int32) * (1024 : Int32)) = 0 then
    (fXX4_blockOf_6 nb x1 ((x4 + x7) / (1024 : Int32)) σ).bind fun o25 =>
    fXX4_append_6_16_114 nb k72 x1 x3 x4 (o25.1 * (1024 : Int32)) x7 ((x4 + x7) - (x4 + x7) / (1024 : Int32) * (1024 : Int32)) o25.2
  else
    fXX4_append_6_16_114 nb k72 x1 x3 x4 x6 x7 ((x4 + x7) - (x4 + x7) / (1024 : Int32) * (1024 : Int32)) σ
def fXX4_append_6_16_23 (nb : Nat) (k23 : (Int32 × Int32 × Int32 × Int32 × Int32 × XS) → Option (Int32 × XS)) (x1 : Int32) (x3 : Int32) (x4 : Int32) (x5 : Int32) (x6 : Int32) (σ : XS) : Option (Int32 × XS) :=
if x5 ≤ x6 then
  (fXX4_setSize_6 nb x1 (x4 + x3) σ).bind fun o11 =>
  (fXX4_blockOf_6 nb x1 (x4 / (1024 : Int32)) o11).bind fun o14 =>
  lfix (fun k72 t => fXX4_append_6_16_72 nb k72 t.1 t.2.1 t.2.2.1 t.2.2.2.1 t.2.2.2.2.1 t.2.2.2.2.2) FU (x1, x3, x4, (o14.1 * (1024 : Int32)), (0 : Int32), o14.2)
else
  (fXX4_addBlock_6 nb x1 x6 σ).bind fun o28 =>
  k23 (x1, x3, x4, x5, (x6 + (1 : Int32)), o28)
def fXX4_append_6_16_0 (nb : Nat) (x1 : Int32) (x3 : Int32) (σ : XS) : Option (Int32 × XS) :=
(fXX4_size_6 nb x1 σ).bind fun o1 =>
(fXX4_blocksFor nb (o1.1 + x3) o1.2).bind fun o4 =>
(fXX4_blocksFor nb o1.1 o4.2).bind fun o7 =>
lfix (fun k23 t => fXX4_append_6_16_23 nb k23 t.1 t.2.1 t.2.2.1 t.2.2.2.1 t.2.2.2.2.1 t.2.2.2.2.2) FU (x1, x3, o1.1, o4.1, o7.1, o7.2)
def fXX4_append_6_16 (nb : Nat) (x1 : Int32) (x3 : Int32) (σ : XS) : Option (Int32 × XS) := fXX4_append_6_16_0 nb x1 x3 σ
def fXX0_write_0_0 (nb : Nat) (x1 : Int32) (σ : XS) : Option (Nat × Int32 × XS) :=
(fXX8_drain_16 nb σ).bind fun o1 =>
(fXX0_itemHere_0 nb x1 o1.2).bind fun o4 =>
if o4.1 = 0 then
  (fXX0_fileAt_0 nb o4.2.1 o4.2.2).bind fun o8 =>
  if o8.1 = 0 then
    (fXX4_costOf_6 nb o8.2.1 o1.1 o8.2.2).bind fun o12 =>
    (fXX0_needBlocks_0 nb o12.1 o12.2).bind fun o15 =>
    if o15.1 = 0 then
      (fXX4_append_6_16 nb o8.2.1 o1.1 o15.2).bind fun o19 =>
      some (0, o19.1, o19.2)
    else some (o15.1, (0 : Int32), o15.2)
  else some (o8.1, (0 : Int32), o8.2.2)
else some (o4.1, (0 : Int32), o4.2.2)
def fXX0_write_0 (nb : Nat) (x1 : Int32) (σ : XS) : Option (Nat × Int32 × XS) := fXX0_write_0_0 nb x1 σ
def fXX11_valueAt_19_0 (nb : Nat) (sd : Int32) (x1 : Int32) (σ : XS) : Option (Int32 × XS) :=
some ((((sd + (x1 * x1)) + (x1 >>> ((8 : Int32) &&& 31))) &&& (255 : Int32)), σ)
def fXX11_valueAt_19 (nb : Nat) (sd : Int32) (x1 : Int32) (σ : XS) : Option (Int32 × XS) := fXX11_valueAt_19_0 nb sd x1 σ
def fXX4_append_6_19_114 (nb : Nat) (sd : Int32) (k72 : (Int32 × Int32 × Int32 × Int32 × Int32 × XS) → Option (Int32 × XS)) (x1 : Int32) (x3 : Int32) (x4 : Int32) (x6 : Int32) (x7 : Int32) (x8 : Int32) (σ : XS) : Option (Int32 × XS) :=
(fXX11_valueAt_19 nb sd x7 σ).bind fun o19 =>
(fXX1_put_1 nb (x6 + x8) o19.1 o19.2).bind fun o22 =>
k72 (x1, x3, x4, x6, (x7 + (1 : Int32)), o22)
def fXX4_append_6_19_72 (nb : Nat) (sd : Int32) (k72 : (Int32 × Int32 × Int32 × Int32 × Int32 × XS) → Option (Int32 × XS)) (x1 : Int32) (x3 : Int32) (x4 : Int32) (x6 : Int32) (x7 : Int32) (σ : XS) : Option (Int32 × XS) :=
if x3 ≤ x7 then
  some ((x4 + x3), σ)
else
  if ((x4 + x7) - (x4 + x7) / (1024 : Int32) * (1024 : Int32)) = 0 then
    (fXX4_blockOf_6 nb x1 ((x4 + x7) / (1024 : Int32)) σ).bind fun o25 =>
    fXX4_append_6_19_114 nb sd k72 x1 x3 x4 (o25.1 * (1024 : Int32)) x7 ((x4 + x7) - (x4 + x7) / (1024 : Int32) * (1024 : Int32)) o25.2
  else
    fXX4_append_6_19_114 nb sd k72 x1 x3 x4 x6 x7 ((x4 + x7) - (x4 + x7) / (1024 : Int32) * (1024 : Int32)) σ
def fXX4_append_6_19_23 (nb : Nat) (sd : Int32) (k23 : (Int32 × Int32 × Int32 × Int32 × Int32 × XS) → Option (Int32 × XS)) (x1 : Int32) (x3 : Int32) (x4 : Int32) (x5 : Int32) (x6 : Int32) (σ : XS) : Option (Int32 × XS) :=
if x5 ≤ x6 then
  (fXX4_setSize_6 nb x1 (x4 + x3) σ).bind fun o11 =>
  (fXX4_blockOf_6 nb x1 (x4 / (1024 : Int32)) o11).bind fun o14 =>
  lfix (fun k72 t => fXX4_append_6_19_72 nb sd k72 t.1 t.2.1 t.2.2.1 t.2.2.2.1 t.2.2.2.2.1 t.2.2.2.2.2) FU (x1, x3, x4, (o14.1 * (1024 : Int32)), (0 : Int32), o14.2)
else
  (fXX4_addBlock_6 nb x1 x6 σ).bind fun o28 =>
  k23 (x1, x3, x4, x5, (x6 + (1 : Int32)), o28)
def fXX4_append_6_19_0 (nb : Nat) (sd : Int32) (x1 : Int32) (x3 : Int32) (σ : XS) : Option (Int32 × XS) :=
(fXX4_size_6 nb x1 σ).bind fun o1 =>
(fXX4_blocksFor nb (o1.1 + x3) o1.2).bind fun o4 =>
(fXX4_blocksFor nb o1.1 o4.2).bind fun o7 =>
lfix (fun k23 t => fXX4_append_6_19_23 nb sd k23 t.1 t.2.1 t.2.2.1 t.2.2.2.1 t.2.2.2.2.1 t.2.2.2.2.2) FU (x1, x3, o1.1, o4.1, o7.1, o7.2)
def fXX4_append_6_19 (nb : Nat) (sd : Int32) (x1 : Int32) (x3 : Int32) (σ : XS) : Option (Int32 × XS) := fXX4_append_6_19_0 nb sd x1 x3 σ
def fXX0_grow_0_21 (nb : Nat) (σ : XS) : Option (Nat × Int32 × XS) :=
some (3, (0 : Int32), σ)
def fXX0_grow_0_0 (nb : Nat) (x1 : Int32) (x2 : Int32) (x3 : Int32) (σ : XS) : Option (Nat × Int32 × XS) :=
(fXX0_itemHere_0 nb x1 σ).bind fun o10 =>
if o10.1 = 0 then
  (fXX0_fileAt_0 nb o10.2.1 o10.2.2).bind fun o14 =>
  if o14.1 = 0 then
    if x2 < 0 then
      fXX0_grow_0_21 nb o14.2.2
    else
      if x2 ≤ (400000 : Int32) then
        (fXX4_costOf_6 nb o14.2.1 x2 o14.2.2).bind fun o20 =>
        (fXX0_needBlocks_0 nb o20.1 o20.2).bind fun o23 =>
        if o23.1 = 0 then
          (fXX4_append_6_19 nb x3 o14.2.1 x2 o23.2).bind fun o28 =>
          some (0, o28.1, o28.2)
        else some (o23.1, (0 : Int32), o23.2)
      else
        fXX0_grow_0_21 nb o14.2.2
  else some (o14.1, (0 : Int32), o14.2.2)
else some (o10.1, (0 : Int32), o10.2.2)
def fXX0_grow_0 (nb : Nat) (x1 : Int32) (x2 : Int32) (x3 : Int32) (σ : XS) : Option (Nat × Int32 × XS) := fXX0_grow_0_0 nb x1 x2 x3 σ
def fXX3_giveBack_4_0 (nb : Nat) (x1 : Int32) (σ : XS) : Option XS :=
if x1 < (1 : Int32) then
  some σ
else
  (fXX3_isUsed_4 nb x1 σ).bind fun o2 =>
  if o2.1 = 0 then
    some o2.2
  else
    (fXX3_mark_4 nb x1 (0 : Int32) o2.2).bind fun o6 =>
    some o6
def fXX3_giveBack_4 (nb : Nat) (x1 : Int32) (σ : XS) : Option XS := fXX3_giveBack_4_0 nb x1 σ
def fXX4_lose_6_0 (nb : Nat) (x1 : Int32) (x2 : Int32) (σ : XS) : Option XS :=
(fXX1_get4_1 nb x2 σ).bind fun o1 =>
(fXX3_giveBack_4 nb o1.1 o1.2).bind fun o4 =>
(fXX1_put4_1 nb x2 (0 : Int32) o4).bind fun o7 =>
(fXX1_get4_1 nb (x1 + (28 : Int32)) o7).bind fun o10 =>
(fXX1_put4_1 nb (x1 + (28 : Int32)) (o10.1 - (2 : Int32)) o10.2).bind fun o13 =>
some o13
def fXX4_lose_6 (nb : Nat) (x1 : Int32) (x2 : Int32) (σ : XS) : Option XS := fXX4_lose_6_0 nb x1 x2 σ
def fXX4_dropBlock_6_53 (nb : Nat) (x2 : Int32) (x3 : Int32) (σ : XS) : Option XS :=
if x2 = (268 : Int32) then
  (fXX4_lose_6 nb x3 (x3 + (92 : Int32)) σ).bind fun o16 =>
  some o16
else
  some σ
def fXX4_dropBlock_6_35 (nb : Nat) (x2 : Int32) (x3 : Int32) (σ : XS) : Option XS :=
(fXX4_beginsRow nb x2 σ).bind fun o11 =>
if o11.1 = 0 then
  fXX4_dropBlock_6_53 nb x2 x3 o11.2
else
  (fXX4_rowPointerAt_6 nb x3 x2 o11.2).bind fun o19 =>
  (fXX4_lose_6 nb x3 o19.1 o19.2).bind fun o22 =>
  fXX4_dropBlock_6_53 nb x2 x3 o22
def fXX4_dropBlock_6_0 (nb : Nat) (x1 : Int32) (x2 : Int32) (σ : XS) : Option XS :=
(fXX2_inodeAt_3 nb x1 σ).bind fun o1 =>
(fXX4_pointerAt_6 nb o1.1 x2 o1.2).bind fun o4 =>
(fXX4_lose_6 nb o1.1 o4.1 o4.2).bind fun o7 =>
if x2 = (12 : Int32) then
  (fXX4_lose_6 nb o1.1 (o1.1 + (88 : Int32)) o7).bind fun o25 =>
  fXX4_dropBlock_6_35 nb x2 o1.1 o25
else
  fXX4_dropBlock_6_35 nb x2 o1.1 o7
def fXX4_dropBlock_6 (nb : Nat) (x1 : Int32) (x2 : Int32) (σ : XS) : Option XS := fXX4_dropBlock_6_0 nb x1 x2 σ
def fXX4_shorten_6_26 (nb : Nat) (k26 : (Int32 × Int32 × Int32 × Int32 × Int32 × XS) → Option (Int32 × XS)) (x1 : Int32) (x2 : Int32) (x3 : Int32) (x4 : Int32) (x5 : Int32) (σ : XS) : Option (Int32 × XS) :=
if x5 < x4 then
  (fXX4_setSize_6 nb x1 x2 σ).bind fun o14 =>
  (fXX3_free_4 nb o14).bind fun o17 =>
  some ((o17.1 - x3), o17.2)
else
  (fXX4_dropBlock_6 nb x1 x5 σ).bind fun o20 =>
  k26 (x1, x2, x3, x4, (x5 + (-1 : Int32)), o20)
def fXX4_shorten_6_0 (nb : Nat) (x1 : Int32) (x2 : Int32) (σ : XS) : Option (Int32 × XS) :=
(fXX3_free_4 nb σ).bind fun o1 =>
(fXX4_blocksFor nb x2 o1.2).bind fun o4 =>
(fXX4_size_6 nb x1 o4.2).bind fun o7 =>
(fXX4_blocksFor nb o7.1 o7.2).bind fun o10 =>
lfix (fun k26 t => fXX4_shorten_6_26 nb k26 t.1 t.2.1 t.2.2.1 t.2.2.2.1 t.2.2.2.2.1 t.2.2.2.2.2) FU (x1, x2, o1.1, o4.1, (o10.1 - (1 : Int32)), o10.2)
def fXX4_shorten_6 (nb : Nat) (x1 : Int32) (x2 : Int32) (σ : XS) : Option (Int32 × XS) := fXX4_shorten_6_0 nb x1 x2 σ
def fXX0_cut_0_26 (nb : Nat) (σ : XS) : Option (Nat × Int32 × XS) :=
some (3, (0 : Int32), σ)
def fXX0_cut_0_0 (nb : Nat) (x1 : Int32) (x2 : Int32) (σ : XS) : Option (Nat × Int32 × XS) :=
(fXX0_itemHere_0 nb x1 σ).bind fun o10 =>
if o10.1 = 0 then
  (fXX0_fileAt_0 nb o10.2.1 o10.2.2).bind fun o14 =>
  if o14.1 = 0 then
    if x2 < 0 then
      fXX0_cut_0_26 nb o14.2.2
    else
      (fXX4_size_6 nb o14.2.1 o14.2.2).bind fun o19 =>
      if x2 ≤ o19.1 then
        (fXX4_shorten_6 nb o14.2.1 x2 o19.2).bind fun o23 =>
        some (0, o23.1, o23.2)
      else
        fXX0_cut_0_26 nb o19.2
  else some (o14.1, (0 : Int32), o14.2.2)
else some (o10.1, (0 : Int32), o10.2.2)
def fXX0_cut_0 (nb : Nat) (x1 : Int32) (x2 : Int32) (σ : XS) : Option (Nat × Int32 × XS) := fXX0_cut_0_0 nb x1 x2 σ
def fXX5_drop_7_0 (nb : Nat) (x1 : Int32) (σ : XS) : Option XS :=
(fXX5_entryAt_7 nb x1 σ).bind fun o1 =>
if (o1.1 - o1.1 / (1024 : Int32) * (1024 : Int32)) = 0 then
  (fXX1_put4_1 nb o1.1 (0 : Int32) o1.2).bind fun o17 =>
  some o17
else
  (fXX5_lengthOf_7 nb (x1 - (1 : Int32)) o1.2).bind fun o5 =>
  (fXX5_lengthOf_7 nb x1 o5.2).bind fun o8 =>
  (fXX5_entryAt_7 nb (x1 - (1 : Int32)) o8.2).bind fun o11 =>
  (fXX1_put2_1 nb (o11.1 + (4 : Int32)) (o5.1 + o8.1) o11.2).bind fun o14 =>
  some o14
def fXX5_drop_7 (nb : Nat) (x1 : Int32) (σ : XS) : Option XS := fXX5_drop_7_0 nb x1 σ
def fXX4_erase_6_0 (nb : Nat) (x1 : Int32) (σ : XS) : Option XS :=
(fXX2_inodeAt_3 nb x1 σ).bind fun o1 =>
(fXX1_fill_1 nb o1.1 (o1.1 + (128 : Int32)) (0 : Int32) o1.2).bind fun o4 =>
some o4
def fXX4_erase_6 (nb : Nat) (x1 : Int32) (σ : XS) : Option XS := fXX4_erase_6_0 nb x1 σ
def fXX3_giveBack_5_0 (nb : Nat) (x1 : Int32) (σ : XS) : Option XS :=
if x1 < (1 : Int32) then
  some σ
else
  (fXX3_isUsed_5 nb x1 σ).bind fun o2 =>
  if o2.1 = 0 then
    some o2.2
  else
    (fXX3_mark_5 nb x1 (0 : Int32) o2.2).bind fun o6 =>
    some o6
def fXX3_giveBack_5 (nb : Nat) (x1 : Int32) (σ : XS) : Option XS := fXX3_giveBack_5_0 nb x1 σ
def fXX0_remove_0_91 (nb : Nat) (x2 : Int32) (x3 : Int32) (σ : XS) : Option (Nat × XS) :=
(fXX5_drop_7 nb x2 σ).bind fun o23 =>
(fXX4_shorten_6 nb x3 (0 : Int32) o23).bind fun o26 =>
(fXX4_erase_6 nb x3 o26.2).bind fun o29 =>
(fXX3_giveBack_5 nb x3 o29).bind fun o32 =>
some (0, o32)
def fXX0_remove_0_0 (nb : Nat) (x1 : Int32) (σ : XS) : Option (Nat × XS) :=
(fXX0_itemHere_0 nb x1 σ).bind fun o12 =>
if o12.1 = 0 then
  (fXX5_inodeOf_7 nb o12.2.1 o12.2.2).bind fun o16 =>
  (fXX4_isDirectory_6 nb o16.1 o16.2).bind fun o19 =>
  if o19.1 = 0 then
    fXX0_remove_0_91 nb o12.2.1 o16.1 o19.2
  else
    (fXX5_read_7 nb o16.1 o19.2).bind fun o35 =>
    (fXX5_itemCount_7 nb o35).bind fun o38 =>
    if o38.1 ≤ 0 then
      (fXX5_read_7 nb (o38.2.1 1) o38.2).bind fun o42 =>
      (fXX4_addLinks_6 nb (o42.1 1) (-1 : Int32) o42).bind fun o45 =>
      (fXX4_countDirectories_6 nb o16.1 (-1 : Int32) o45).bind fun o48 =>
      fXX0_remove_0_91 nb o12.2.1 o16.1 o48
    else
      some (3, o38.2)
else some (o12.1, o12.2.2)
def fXX0_remove_0 (nb : Nat) (x1 : Int32) (σ : XS) : Option (Nat × XS) := fXX0_remove_0_0 nb x1 σ
def fXX4_setTime_6_0 (nb : Nat) (x1 : Int32) (x2 : Int32) (x3 : Int64) (σ : XS) : Option XS :=
(fXX2_inodeAt_3 nb x1 σ).bind fun o1 =>
(fXX1_put4_1 nb ((o1.1 + (8 : Int32)) + ((4 : Int32) * x2)) x3.toInt32 o1.2).bind fun o4 =>
some o4
def fXX4_setTime_6 (nb : Nat) (x1 : Int32) (x2 : Int32) (x3 : Int64) (σ : XS) : Option XS := fXX4_setTime_6_0 nb x1 x2 x3 σ
def fXX0_stamp_0_23 (nb : Nat) (σ : XS) : Option (Nat × XS) :=
some (3, σ)
def fXX0_stamp_0_0 (nb : Nat) (x1 : Int32) (x2 : Int32) (x3 : Int64) (σ : XS) : Option (Nat × XS) :=
(fXX0_itemHere_0 nb x1 σ).bind fun o9 =>
if o9.1 = 0 then
  (fXX5_inodeOf_7 nb o9.2.1 o9.2.2).bind fun o13 =>
  if x2 < 0 then
    fXX0_stamp_0_23 nb o13.2
  else
    if x2 ≤ (2 : Int32) then
      (fXX4_setTime_6 nb o13.1 x2 x3 o13.2).bind fun o18 =>
      some (0, o18)
    else
      fXX0_stamp_0_23 nb o13.2
else some (o9.1, o9.2.2)
def fXX0_stamp_0 (nb : Nat) (x1 : Int32) (x2 : Int32) (x3 : Int64) (σ : XS) : Option (Nat × XS) := fXX0_stamp_0_0 nb x1 x2 x3 σ
