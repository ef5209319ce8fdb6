def fXX1_length_1_0 (nb : Nat) (σ : XS) : Option (Int32 × XS) :=
some ((Int32.ofNat (nb * 1024)), σ)
def fXX1_length_1 (nb : Nat) (σ : XS) : Option (Int32 × XS) := fXX1_length_1_0 nb σ
def fXX1_get_1_0 (nb : Nat) (x1 : Int32) (σ : XS) : Option (Int32 × XS) :=
if x1 < 0 then
  some ((0 : Int32), σ)
else
  if (Int32.ofNat (nb * 1024)) ≤ x1 then
    some ((0 : Int32), σ)
  else
    if x1 < 0 ∨ (nb * 1024) ≤ x1.toNatClampNeg then none else
    some (((σ.2.1 0 x1.toNatClampNeg) &&& (255 : Int32)), σ)
def fXX1_get_1 (nb : Nat) (x1 : Int32) (σ : XS) : Option (Int32 × XS) := fXX1_get_1_0 nb x1 σ
def fXX1_put_1_0 (nb : Nat) (x1 : Int32) (x2 : Int32) (σ : XS) : Option XS :=
if x1 < 0 then
  some σ
else
  if (Int32.ofNat (nb * 1024)) ≤ x1 then
    some σ
  else
    if x1 < 0 ∨ (nb * 1024) ≤ x1.toNatClampNeg then none else
    some (stA σ 0 x1.toNatClampNeg (vp_nar .byte x2.toInt8.toInt32))
def fXX1_put_1 (nb : Nat) (x1 : Int32) (x2 : Int32) (σ : XS) : Option XS := fXX1_put_1_0 nb x1 x2 σ
def fXX1_get2_1_0 (nb : Nat) (x1 : Int32) (σ : XS) : Option (Int32 × XS) :=
if x1 < 0 then
  some ((0 : Int32), σ)
else
  if x1 ≤ ((Int32.ofNat (nb * 1024)) - (2 : Int32)) then
    if x1 < 0 ∨ (nb * 1024) ≤ x1.toNatClampNeg then none else
    if (x1 + (1 : Int32)) < 0 ∨ (nb * 1024) ≤ (x1 + (1 : Int32)).toNatClampNeg then none else
    some ((((σ.2.1 0 x1.toNatClampNeg) &&& (255 : Int32)) ||| (((σ.2.1 0 (x1 + (1 : Int32)).toNatClampNeg) &&& (255 : Int32)) <<< ((8 : Int32) &&& 31))), σ)
  else
    some ((0 : Int32), σ)
def fXX1_get2_1 (nb : Nat) (x1 : Int32) (σ : XS) : Option (Int32 × XS) := fXX1_get2_1_0 nb x1 σ
def fXX1_put2_1_0 (nb : Nat) (x1 : Int32) (x2 : Int32) (σ : XS) : Option XS :=
if x1 < 0 then
  some σ
else
  if ((Int32.ofNat (nb * 1024)) - (2 : Int32)) < x1 then
    some σ
  else
    if x1 < 0 ∨ (nb * 1024) ≤ x1.toNatClampNeg then none else
    if (x1 + (1 : Int32)) < 0 ∨ (nb * 1024) ≤ (x1 + (1 : Int32)).toNatClampNeg then none else
    some (stA (stA σ 0 x1.toNatClampNeg (vp_nar .byte x2.toInt8.toInt32)) 0 (x1 + (1 : Int32)).toNatClampNeg (vp_nar .byte ((x2 >>> ((8 : Int32) &&& 31)).toInt8.toInt32)))
def fXX1_put2_1 (nb : Nat) (x1 : Int32) (x2 : Int32) (σ : XS) : Option XS := fXX1_put2_1_0 nb x1 x2 σ
def fXX1_get4_1_0 (nb : Nat) (x1 : Int32) (σ : XS) : Option (Int32 × XS) :=
if x1 < 0 then
  some ((0 : Int32), σ)
else
  if x1 ≤ ((Int32.ofNat (nb * 1024)) - (4 : Int32)) then
    if x1 < 0 ∨ (nb * 1024) ≤ x1.toNatClampNeg then none else
    if (x1 + (1 : Int32)) < 0 ∨ (nb * 1024) ≤ (x1 + (1 : Int32)).toNatClampNeg then none else
    if (x1 + (2 : Int32)) < 0 ∨ (nb * 1024) ≤ (x1 + (2 : Int32)).toNatClampNeg then none else
    if (x1 + (3 : Int32)) < 0 ∨ (nb * 1024) ≤ (x1 + (3 : Int32)).toNatClampNeg then none else
    some ((((((σ.2.1 0 x1.toNatClampNeg) &&& (255 : Int32)) ||| (((σ.2.1 0 (x1 + (1 : Int32)).toNatClampNeg) &&& (255 : Int32)) <<< ((8 : Int32) &&& 31))) ||| (((σ.2.1 0 (x1 + (2 : Int32)).toNatClampNeg) &&& (255 : Int32)) <<< ((16 : Int32) &&& 31))) ||| (((σ.2.1 0 (x1 + (3 : Int32)).toNatClampNeg) &&& (255 : Int32)) <<< ((24 : Int32) &&& 31))), σ)
  else
    some ((0 : Int32), σ)
def fXX1_get4_1 (nb : Nat) (x1 : Int32) (σ : XS) : Option (Int32 × XS) := fXX1_get4_1_0 nb x1 σ
def fXX1_put4_1_0 (nb : Nat) (x1 : Int32) (x2 : Int32) (σ : XS) : Option XS :=
if x1 < 0 then
  some σ
else
  if ((Int32.ofNat (nb * 1024)) - (4 : Int32)) < x1 then
    some σ
  else
    if x1 < 0 ∨ (nb * 1024) ≤ x1.toNatClampNeg then none else
    if (x1 + (1 : Int32)) < 0 ∨ (nb * 1024) ≤ (x1 + (1 : Int32)).toNatClampNeg then none else
    if (x1 + (2 : Int32)) < 0 ∨ (nb * 1024) ≤ (x1 + (2 : Int32)).toNatClampNeg then none else
    if (x1 + (3 : Int32)) < 0 ∨ (nb * 1024) ≤ (x1 + (3 : Int32)).toNatClampNeg then none else
    some (stA (stA (stA (stA σ 0 x1.toNatClampNeg (vp_nar .byte x2.toInt8.toInt32)) 0 (x1 + (1 : Int32)).toNatClampNeg (vp_nar .byte ((x2 >>> ((8 : Int32) &&& 31)).toInt8.toInt32))) 0 (x1 + (2 : Int32)).toNatClampNeg (vp_nar .byte ((x2 >>> ((16 : Int32) &&& 31)).toInt8.toInt32))) 0 (x1 + (3 : Int32)).toNatClampNeg (vp_nar .byte ((x2 >>> ((24 : Int32) &&& 31)).toInt8.toInt32)))
def fXX1_put4_1 (nb : Nat) (x1 : Int32) (x2 : Int32) (σ : XS) : Option XS := fXX1_put4_1_0 nb x1 x2 σ
def fXJ2_rangeCheck_0 (nb : Nat) (x0 : Int32) (x1 : Int32) (x2 : Int32) (σ : XS) : Option XS :=
if x1 ≤ x2 then
  if 0 ≤ x1 then
    if x2 ≤ x0 then
      some σ
    else
      none
  else
    none
else
  none
def fXJ2_rangeCheck (nb : Nat) (x0 : Int32) (x1 : Int32) (x2 : Int32) (σ : XS) : Option XS := fXJ2_rangeCheck_0 nb x0 x1 x2 σ
def fXJ2_fill___2_10 (nb : Nat) (k10 : (Int32 × Int32 × Int32 × XS) → Option XS) (x2 : Int32) (x3 : Int32) (x4 : Int32) (σ : XS) : Option XS :=
if x2 ≤ x4 then
  some σ
else
  if x4 < 0 ∨ (nb * 1024) ≤ x4.toNatClampNeg then none else
  k10 (x2, x3, (x4 + (1 : Int32)), (stA σ 0 x4.toNatClampNeg (vp_nar .byte x3)))
def fXJ2_fill___2_0 (nb : Nat) (x1 : Int32) (x2 : Int32) (x3 : Int32) (σ : XS) : Option XS :=
(fXJ2_rangeCheck nb (Int32.ofNat (nb * 1024)) x1 x2 σ).bind fun o1 =>
lfix (fun k10 t => fXJ2_fill___2_10 nb k10 t.1 t.2.1 t.2.2.1 t.2.2.2) FU (x2, x3, x1, o1)
def fXJ2_fill___2 (nb : Nat) (x1 : Int32) (x2 : Int32) (x3 : Int32) (σ : XS) : Option XS := fXJ2_fill___2_0 nb x1 x2 x3 σ
def fXX1_fill_1_0 (nb : Nat) (x1 : Int32) (x2 : Int32) (x3 : Int32) (σ : XS) : Option XS :=
if x1 < 0 then
  some σ
else
  if x2 < x1 then
    some σ
  else
    if (Int32.ofNat (nb * 1024)) < x2 then
      some σ
    else
      (fXJ2_fill___2 nb x1 x2 x3.toInt8.toInt32 σ).bind fun o4 =>
      some o4
def fXX1_fill_1 (nb : Nat) (x1 : Int32) (x2 : Int32) (x3 : Int32) (σ : XS) : Option XS := fXX1_fill_1_0 nb x1 x2 x3 σ
def fXX1_copy_1_0 (nb : Nat) (x1 : Int32) (x2 : Int32) (x3 : Int32) (σ : XS) : Option XS :=
if x3 < 0 then
  some σ
else
  if x1 < 0 then
    some σ
  else
    if x2 < 0 then
      some σ
    else
      if ((Int32.ofNat (nb * 1024)) - x3) < x1 then
        some σ
      else
        if ((Int32.ofNat (nb * 1024)) - x3) < x2 then
          some σ
        else
          if x1 < 0 ∨ x2 < 0 ∨ x3 < 0 ∨ (nb * 1024) < x1.toNatClampNeg + x3.toNatClampNeg ∨ (nb * 1024) < x2.toNatClampNeg + x3.toNatClampNeg then none else
          if ∀ i, i < x3.toNatClampNeg → fits .byte (.int ((σ.2.1 0) (x1.toNatClampNeg + i))) = true then
            some (stC σ 0 0 x1.toNatClampNeg x2.toNatClampNeg x3.toNatClampNeg)
          else none
def fXX1_copy_1 (nb : Nat) (x1 : Int32) (x2 : Int32) (x3 : Int32) (σ : XS) : Option XS := fXX1_copy_1_0 nb x1 x2 x3 σ
def fXX1_isZero_1_25 (nb : Nat) (k25 : (Int32 × Int32 × XS) → Option (Int32 × XS)) (x2 : Int32) (x3 : Int32) (σ : XS) : Option (Int32 × XS) :=
if x2 ≤ x3 then
  some ((1 : Int32), σ)
else
  (fXX1_get_1 nb x3 σ).bind fun o3 =>
  if o3.1 = 0 then
    k25 (x2, (x3 + (1 : Int32)), o3.2)
  else
    some ((0 : Int32), o3.2)
def fXX1_isZero_1_2 (nb : Nat) (k2 : (Int32 × Int32 × XS) → Option (Int32 × XS)) (x2 : Int32) (x3 : Int32) (σ : XS) : Option (Int32 × XS) :=
if (x2 - (4 : Int32)) < x3 then
  lfix (fun k25 t => fXX1_isZero_1_25 nb k25 t.1 t.2.1 t.2.2) FU (x2, x3, σ)
else
  (fXX1_get4_1 nb x3 σ).bind fun o7 =>
  if o7.1 = 0 then
    k2 (x2, (x3 + (4 : Int32)), o7.2)
  else
    some ((0 : Int32), o7.2)
def fXX1_isZero_1_0 (nb : Nat) (x1 : Int32) (x2 : Int32) (σ : XS) : Option (Int32 × XS) :=
lfix (fun k2 t => fXX1_isZero_1_2 nb k2 t.1 t.2.1 t.2.2) FU (x2, x1, σ)
def fXX1_isZero_1 (nb : Nat) (x1 : Int32) (x2 : Int32) (σ : XS) : Option (Int32 × XS) := fXX1_isZero_1_0 nb x1 x2 σ
def fXX2_choose_3_84 (nb : Nat) (x1 : Int32) (x4 : Int32) (x5 : Int32) (σ : XS) : Option (Int32 × XS) :=
if (((4 : Int32) + x5) + (8 : Int32)) ≤ (((Int32.ofNat nb) - (1 : Int32)) - ((x4 - (1 : Int32)) * x1)) then
  some ((1 : Int32), (stS (stS (stS σ 2 x1) 3 x4) 4 ((8 : Int32) * x5)))
else
  some ((0 : Int32), σ)
def fXX2_choose_3_25 (nb : Nat) (x1 : Int32) (x2 : Int32) (y0 : Int32) (σ : XS) : Option (Int32 × XS) :=
if y0 = 0 then
  some ((0 : Int32), σ)
else
  if x2 < (12 : Int32) then
    some ((0 : Int32), σ)
  else
    if x2 ≤ (2000 : Int32) then
      if x1 = 0 then none else
      if (1 : Int32) ≤ (((((Int32.ofNat nb) - (1 : Int32)) + x1) - (1 : Int32)) / x1) then
        if ((8 : Int32) * (((((Int32.ofNat nb) - (1 : Int32)) + x1) - (1 : Int32)) / x1)) = 0 then none else
        fXX2_choose_3_84 nb x1 (((((Int32.ofNat nb) - (1 : Int32)) + x1) - (1 : Int32)) / x1) (((x2 + ((8 : Int32) * (((((Int32.ofNat nb) - (1 : Int32)) + x1) - (1 : Int32)) / x1))) - (1 : Int32)) / ((8 : Int32) * (((((Int32.ofNat nb) - (1 : Int32)) + x1) - (1 : Int32)) / x1))) σ
      else
        some ((0 : Int32), σ)
    else
      some ((0 : Int32), σ)
def fXX2_choose_3_20 (nb : Nat) (x1 : Int32) (x2 : Int32) (σ : XS) : Option (Int32 × XS) :=
fXX2_choose_3_25 nb x1 x2 (1 : Int32) σ
def fXX2_choose_3_0 (nb : Nat) (x1 : Int32) (x2 : Int32) (σ : XS) : Option (Int32 × XS) :=
if x1 = (64 : Int32) then
  fXX2_choose_3_20 nb x1 x2 σ
else
  if x1 = (128 : Int32) then
    fXX2_choose_3_20 nb x1 x2 σ
  else
    if x1 = (256 : Int32) then
      fXX2_choose_3_20 nb x1 x2 σ
    else
      fXX2_choose_3_25 nb x1 x2 (0 : Int32) σ
def fXX2_choose_3 (nb : Nat) (x1 : Int32) (x2 : Int32) (σ : XS) : Option (Int32 × XS) := fXX2_choose_3_0 nb x1 x2 σ
def fXX2_blocks_3_0 (nb : Nat) (σ : XS) : Option (Int32 × XS) :=
some ((Int32.ofNat nb), σ)
def fXX2_blocks_3 (nb : Nat) (σ : XS) : Option (Int32 × XS) := fXX2_blocks_3_0 nb σ
def fXX2_groups_3_0 (nb : Nat) (σ : XS) : Option (Int32 × XS) :=
some ((σ.1 3), σ)
def fXX2_groups_3 (nb : Nat) (σ : XS) : Option (Int32 × XS) := fXX2_groups_3_0 nb σ
def fXX2_groupBlocks_3_0 (nb : Nat) (σ : XS) : Option (Int32 × XS) :=
some ((σ.1 2), σ)
def fXX2_groupBlocks_3 (nb : Nat) (σ : XS) : Option (Int32 × XS) := fXX2_groupBlocks_3_0 nb σ
def fXX2_groupInodes_3_0 (nb : Nat) (σ : XS) : Option (Int32 × XS) :=
some ((σ.1 4), σ)
def fXX2_groupInodes_3 (nb : Nat) (σ : XS) : Option (Int32 × XS) := fXX2_groupInodes_3_0 nb σ
def fXX2_inodes_3_0 (nb : Nat) (σ : XS) : Option (Int32 × XS) :=
some (((σ.1 3) * (σ.1 4)), σ)
def fXX2_inodes_3 (nb : Nat) (σ : XS) : Option (Int32 × XS) := fXX2_inodes_3_0 nb σ
def fXX2_fixedBlocks_3_0 (nb : Nat) (σ : XS) : Option (Int32 × XS) :=
some (((4 : Int32) + ((σ.1 4) / (8 : Int32))), σ)
def fXX2_fixedBlocks_3 (nb : Nat) (σ : XS) : Option (Int32 × XS) := fXX2_fixedBlocks_3_0 nb σ
def fXX2_firstBlock_3_0 (nb : Nat) (x1 : Int32) (σ : XS) : Option (Int32 × XS) :=
some (((1 : Int32) + (x1 * (σ.1 2))), σ)
def fXX2_firstBlock_3 (nb : Nat) (x1 : Int32) (σ : XS) : Option (Int32 × XS) := fXX2_firstBlock_3_0 nb x1 σ
def fXX2_blocksIn_3_0 (nb : Nat) (x1 : Int32) (σ : XS) : Option (Int32 × XS) :=
(fXX2_firstBlock_3 nb x1 σ).bind fun o1 =>
some ((if ((Int32.ofNat nb) - o1.1) < (σ.1 2) then ((Int32.ofNat nb) - o1.1) else (σ.1 2)), o1.2)
def fXX2_blocksIn_3 (nb : Nat) (x1 : Int32) (σ : XS) : Option (Int32 × XS) := fXX2_blocksIn_3_0 nb x1 σ
def fXX2_partAt_3_0 (nb : Nat) (x1 : Int32) (x2 : Int32) (σ : XS) : Option (Int32 × XS) :=
some (((((1 : Int32) + (x1 * (σ.1 2))) + x2) * (1024 : Int32)), σ)
def fXX2_partAt_3 (nb : Nat) (x1 : Int32) (x2 : Int32) (σ : XS) : Option (Int32 × XS) := fXX2_partAt_3_0 nb x1 x2 σ
def fXX2_groupOfInode_3_0 (nb : Nat) (x1 : Int32) (σ : XS) : Option (Int32 × XS) :=
if (σ.1 4) ≤ 0 then
  some ((0 : Int32), σ)
else
  if (σ.1 4) = 0 then none else
  some (((x1 - (1 : Int32)) / (σ.1 4)), σ)
def fXX2_groupOfInode_3 (nb : Nat) (x1 : Int32) (σ : XS) : Option (Int32 × XS) := fXX2_groupOfInode_3_0 nb x1 σ
def fXX2_inodeAt_3_0 (nb : Nat) (x1 : Int32) (σ : XS) : Option (Int32 × XS) :=
if (1 : Int32) ≤ (σ.1 4) then
  if (σ.1 4) = 0 then none else
  if (σ.1 4) = 0 then none else
  some ((((((1 : Int32) + (((x1 - (1 : Int32)) / (σ.1 4)) * (σ.1 2))) + (4 : Int32)) * (1024 : Int32)) + (((x1 - (1 : Int32)) - (x1 - (1 : Int32)) / (σ.1 4) * (σ.1 4)) * (128 : Int32))), σ)
else
  some ((-1 : Int32), σ)
def fXX2_inodeAt_3 (nb : Nat) (x1 : Int32) (σ : XS) : Option (Int32 × XS) := fXX2_inodeAt_3_0 nb x1 σ
