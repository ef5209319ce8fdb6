def fMX12_thrown_0_0 (nb : Nat) (σ : XS) : Option (Int32 × XS) :=
some ((σ.1 0), σ)
def fMX12_thrown_0 (nb : Nat) (σ : XS) : Option (Int32 × XS) := fMX12_thrown_0_0 nb σ
def fMX12_fails_0_16 (nb : Nat) (σ : XS) : Option (Int32 × XS) :=
if (σ.1 0) = 0 then
  some ((0 : Int32), σ)
else
  some ((1 : Int32), σ)
def fMX12_fails_0_0 (nb : Nat) (x1 : Int32) (x2 : Int32) (σ : XS) : Option (Int32 × XS) :=
if x1 = 0 then
  fMX12_fails_0_16 nb σ
else
  if (σ.1 0) = 0 then
    fMX12_fails_0_16 nb (stS σ 0 x2)
  else
    fMX12_fails_0_16 nb σ
def fMX12_fails_0 (nb : Nat) (x1 : Int32) (x2 : Int32) (σ : XS) : Option (Int32 × XS) := fMX12_fails_0_0 nb x1 x2 σ
def fMX12_parts_0 (nb : Nat) (x0 : Int32) (x1 : Int32) (σ : XS) : Option (Int32 × XS) :=
if x1 = 0 then none else
some ((((x0 + x1) - (1 : Int32)) / x1), σ)
def fMX12_parts (nb : Nat) (x0 : Int32) (x1 : Int32) (σ : XS) : Option (Int32 × XS) := fMX12_parts_0 nb x0 x1 σ
def fMX12_feed_0_61 (nb : Nat) (k8 : (Int32 × Int32 × Int32 × Int32 × Int32 × Int32 × XS) → Option XS) (x1 : Int32) (x2 : Int32) (x3 : Int32) (x4 : Int32) (x5 : Int32) (x6 : Int32) (y0 : Int32) (σ : XS) : Option XS :=
if x6 < 0 ∨ 20 ≤ x6.toNatClampNeg then none else
k8 (x1, x2, x3, x4, x5, (x6 + (1 : Int32)), (stA σ 3 x6.toNatClampNeg (vp_nar .byte ((y0 >>> (((24 : Int32) - ((8 : Int32) * (x6 - x6 / (4 : Int32) * (4 : Int32)))) &&& 31)).toInt8.toInt32))))
def fMX12_feed_0_8 (nb : Nat) (k8 : (Int32 × Int32 × Int32 × Int32 × Int32 × Int32 × XS) → Option XS) (x1 : Int32) (x2 : Int32) (x3 : Int32) (x4 : Int32) (x5 : Int32) (x6 : Int32) (σ : XS) : Option XS :=
if (20 : Int32) ≤ x6 then
  some σ
else
  if (4 : Int32) ≤ x6 then
    if (8 : Int32) ≤ x6 then
      if (12 : Int32) ≤ x6 then
        if (16 : Int32) ≤ x6 then
          fMX12_feed_0_61 nb k8 x1 x2 x3 x4 x5 x6 x5 σ
        else
          fMX12_feed_0_61 nb k8 x1 x2 x3 x4 x5 x6 x4 σ
      else
        fMX12_feed_0_61 nb k8 x1 x2 x3 x4 x5 x6 x3 σ
    else
      fMX12_feed_0_61 nb k8 x1 x2 x3 x4 x5 x6 x2 σ
  else
    fMX12_feed_0_61 nb k8 x1 x2 x3 x4 x5 x6 x1 σ
def fMX12_feed_0_0 (nb : Nat) (x1 : Int32) (x2 : Int32) (x3 : Int32) (x4 : Int32) (x5 : Int32) (σ : XS) : Option XS :=
lfix (fun k8 t => fMX12_feed_0_8 nb k8 t.1 t.2.1 t.2.2.1 t.2.2.2.1 t.2.2.2.2.1 t.2.2.2.2.2.1 t.2.2.2.2.2.2) FU (x1, x2, x3, x4, x5, (0 : Int32), (stS σ 0 (0 : Int32)))
def fMX12_feed_0 (nb : Nat) (x1 : Int32) (x2 : Int32) (x3 : Int32) (x4 : Int32) (x5 : Int32) (σ : XS) : Option XS := fMX12_feed_0_0 nb x1 x2 x3 x4 x5 σ
def fMX12_end_0_61 (nb : Nat) (k61 : (Int32 × Int32 × XS) → Option (Int32 × XS)) (x1 : Int32) (x2 : Int32) (σ : XS) : Option (Int32 × XS) :=
if (20 : Int32) ≤ x2 then
  some (((σ.1 1) + x1), (stS σ 1 ((σ.1 1) + x1)))
else
  if x2 < 0 ∨ 20 ≤ x2.toNatClampNeg then none else
  k61 (x1, (x2 + (1 : Int32)), (stA σ 3 x2.toNatClampNeg (vp_nar .byte (0 : Int32))))
def fMX12_end_0_31 (nb : Nat) (k31 : (Int32 × Int32 × XS) → Option (Int32 × XS)) (x1 : Int32) (x2 : Int32) (σ : XS) : Option (Int32 × XS) :=
if x1 ≤ x2 then
  lfix (fun k61 t => fMX12_end_0_61 nb k61 t.1 t.2.1 t.2.2) FU (x1, (0 : Int32), σ)
else
  if x2 < 0 ∨ 20 ≤ x2.toNatClampNeg then none else
  if ((σ.1 1) + x2) < 0 ∨ 4096 ≤ ((σ.1 1) + x2).toNatClampNeg then none else
  k31 (x1, (x2 + (1 : Int32)), (stA σ 2 ((σ.1 1) + x2).toNatClampNeg (vp_nar .byte (σ.2.1 3 x2.toNatClampNeg))))
def fMX12_end_0_0 (nb : Nat) (x1 : Int32) (σ : XS) : Option (Int32 × XS) :=
if x1 < 0 then
  some ((-1 : Int32), (stS σ 0 (0 : Int32)))
else
  if (20 : Int32) < x1 then
    some ((-1 : Int32), (stS σ 0 (0 : Int32)))
  else
    if ((σ.1 1) + x1) ≤ (4096 : Int32) then
      lfix (fun k31 t => fMX12_end_0_31 nb k31 t.1 t.2.1 t.2.2) FU (x1, (0 : Int32), (stS σ 0 (0 : Int32)))
    else
      some ((-1 : Int32), (stS σ 0 (0 : Int32)))
def fMX12_end_0 (nb : Nat) (x1 : Int32) (σ : XS) : Option (Int32 × XS) := fMX12_end_0_0 nb x1 σ
def fMX12_begin_0_0 (nb : Nat) (x1 : Int32) (σ : XS) : Option (Int32 × XS) :=
some (((1 : Int32) + (x1 * (σ.1 4))), σ)
def fMX12_begin_0 (nb : Nat) (x1 : Int32) (σ : XS) : Option (Int32 × XS) := fMX12_begin_0_0 nb x1 σ
def fMX12_room_0_0 (nb : Nat) (x1 : Int32) (σ : XS) : Option (Int32 × XS) :=
if ((σ.1 7) - (1 : Int32)) ≤ x1 then
  (fMX12_begin_0 nb x1 σ).bind fun o2 =>
  some (((Int32.ofNat nb) - o2.1), o2.2)
else
  some ((σ.1 4), σ)
def fMX12_room_0 (nb : Nat) (x1 : Int32) (σ : XS) : Option (Int32 × XS) := fMX12_room_0_0 nb x1 σ
def fMX12_isFixed_0_0 (nb : Nat) (x1 : Int32) (σ : XS) : Option (Int32 × XS) :=
if x1 ≤ 0 then
  some ((0 : Int32), σ)
else
  if (σ.1 4) = 0 then none else
  if ((4 : Int32) + (σ.1 6)) ≤ ((x1 - (1 : Int32)) - (x1 - (1 : Int32)) / (σ.1 4) * (σ.1 4)) then
    some ((0 : Int32), σ)
  else
    some ((1 : Int32), σ)
def fMX12_isFixed_0 (nb : Nat) (x1 : Int32) (σ : XS) : Option (Int32 × XS) := fMX12_isFixed_0_0 nb x1 σ
def fMX12_freeBlocks_0_27 (nb : Nat) (k4 : (Int32 × Int32 × XS) → Option (Int32 × XS)) (x2 : Int32) (y0 : Int32) (y1 : Int32) (σ : XS) : Option (Int32 × XS) :=
k4 ((y1 + y0), (x2 + (1 : Int32)), σ)
def fMX12_freeBlocks_0_4 (nb : Nat) (k4 : (Int32 × Int32 × XS) → Option (Int32 × XS)) (x1 : Int32) (x2 : Int32) (σ : XS) : Option (Int32 × XS) :=
if (Int32.ofNat nb) ≤ x2 then
  some (x1, σ)
else
  if x2 < 0 ∨ 512 ≤ x2.toNatClampNeg then none else
  if (σ.2.1 4 x2.toNatClampNeg) = 0 then
    fMX12_freeBlocks_0_27 nb k4 x2 (1 : Int32) x1 σ
  else
    fMX12_freeBlocks_0_27 nb k4 x2 (0 : Int32) x1 σ
def fMX12_freeBlocks_0_0 (nb : Nat) (σ : XS) : Option (Int32 × XS) :=
lfix (fun k4 t => fMX12_freeBlocks_0_4 nb k4 t.1 t.2.1 t.2.2) FU ((0 : Int32), (1 : Int32), σ)
def fMX12_freeBlocks_0 (nb : Nat) (σ : XS) : Option (Int32 × XS) := fMX12_freeBlocks_0_0 nb σ
def fMX12_freeInodes_0_32 (nb : Nat) (k4 : (Int32 × Int32 × XS) → Option (Int32 × XS)) (x2 : Int32) (y0 : Int32) (y1 : Int32) (σ : XS) : Option (Int32 × XS) :=
k4 ((y1 + y0), (x2 + (1 : Int32)), σ)
def fMX12_freeInodes_0_4 (nb : Nat) (k4 : (Int32 × Int32 × XS) → Option (Int32 × XS)) (x1 : Int32) (x2 : Int32) (σ : XS) : Option (Int32 × XS) :=
if ((σ.1 7) * (σ.1 5)) < x2 then
  some (x1, σ)
else
  if x2 < 0 ∨ 2100 ≤ x2.toNatClampNeg then none else
  if (σ.2.1 6 x2.toNatClampNeg) = 0 then
    fMX12_freeInodes_0_32 nb k4 x2 (1 : Int32) x1 σ
  else
    fMX12_freeInodes_0_32 nb k4 x2 (0 : Int32) x1 σ
def fMX12_freeInodes_0_0 (nb : Nat) (σ : XS) : Option (Int32 × XS) :=
lfix (fun k4 t => fMX12_freeInodes_0_4 nb k4 t.1 t.2.1 t.2.2) FU ((0 : Int32), (1 : Int32), σ)
def fMX12_freeInodes_0 (nb : Nat) (σ : XS) : Option (Int32 × XS) := fMX12_freeInodes_0_0 nb σ
def fMX12_take_0_33 (nb : Nat) (k33 : (Int32 × Int32 × XS) → Option (Int32 × XS)) (x1 : Int32) (x2 : Int32) (σ : XS) : Option (Int32 × XS) :=
if (1024 : Int32) ≤ x2 then
  some (x1, σ)
else
  if (((1024 : Int32) * x1) + x2) < 0 ∨ 524288 ≤ (((1024 : Int32) * x1) + x2).toNatClampNeg then none else
  k33 (x1, (x2 + (1 : Int32)), (stA σ 0 (((1024 : Int32) * x1) + x2).toNatClampNeg (vp_nar .byte (0 : Int32))))
def fMX12_take_0_2 (nb : Nat) (k2 : (Int32 × XS) → Option (Int32 × XS)) (x1 : Int32) (σ : XS) : Option (Int32 × XS) :=
if x1 < 0 ∨ 512 ≤ x1.toNatClampNeg then none else
if (σ.2.1 4 x1.toNatClampNeg) = 0 then
  if x1 < 0 ∨ 512 ≤ x1.toNatClampNeg then none else
  if x1 < 0 ∨ 512 ≤ x1.toNatClampNeg then none else
  lfix (fun k33 t => fMX12_take_0_33 nb k33 t.1 t.2.1 t.2.2) FU (x1, (0 : Int32), (stA (stA σ 4 x1.toNatClampNeg (vp_nar .boolean (1 : Int32))) 5 x1.toNatClampNeg (0 : Int32)))
else
  k2 ((x1 + (1 : Int32)), σ)
def fMX12_take_0_0 (nb : Nat) (σ : XS) : Option (Int32 × XS) :=
lfix (fun k2 t => fMX12_take_0_2 nb k2 t.1 t.2) FU ((1 : Int32), σ)
def fMX12_take_0 (nb : Nat) (σ : XS) : Option (Int32 × XS) := fMX12_take_0_0 nb σ
def fMX12_all_12 (nb : Nat) (x0 : Int32) (y0 : Int32) (y1 : Int32) (σ : XS) : Option (Int32 × XS) :=
if x0 ≤ (268 : Int32) then
  some (((y1 + y0) + (0 : Int32)), σ)
else
  (fMX12_parts nb (x0 - (268 : Int32)) (256 : Int32) σ).bind fun o3 =>
  some (((y1 + y0) + ((1 : Int32) + o3.1)), o3.2)
def fMX12_all_0 (nb : Nat) (x0 : Int32) (σ : XS) : Option (Int32 × XS) :=
if x0 ≤ (12 : Int32) then
  fMX12_all_12 nb x0 (0 : Int32) x0 σ
else
  fMX12_all_12 nb x0 (1 : Int32) x0 σ
def fMX12_all (nb : Nat) (x0 : Int32) (σ : XS) : Option (Int32 × XS) := fMX12_all_0 nb x0 σ
def fMX12_gain_0_155 (nb : Nat) (x1 : Int32) (x3 : Int32) (σ : XS) : Option XS :=
if x1 < 0 ∨ 2100 ≤ x1.toNatClampNeg then none else
if x1 < 0 ∨ 2100 ≤ x1.toNatClampNeg then none else
if x1 < 0 ∨ 2100 ≤ x1.toNatClampNeg then none else
some (stA (stA σ 11 x1.toNatClampNeg x3) 9 x1.toNatClampNeg (((stA σ 11 x1.toNatClampNeg x3).2.1 9 x1.toNatClampNeg) + (1 : Int32)))
def fMX12_gain_0_124 (nb : Nat) (x1 : Int32) (x2 : Int32) (σ : XS) : Option XS :=
(fMX12_take_0 nb σ).bind fun o5 =>
if x2 = 0 then
  if x1 < 0 ∨ 2100 ≤ x1.toNatClampNeg then none else
  fMX12_gain_0_155 nb x1 o5.1 (stA o5.2 10 x1.toNatClampNeg o5.1)
else
  if x1 < 0 ∨ 2100 ≤ x1.toNatClampNeg then none else
  if (o5.2.2.1 11 x1.toNatClampNeg) < 0 ∨ 512 ≤ (o5.2.2.1 11 x1.toNatClampNeg).toNatClampNeg then none else
  fMX12_gain_0_155 nb x1 o5.1 (stA o5.2 5 (o5.2.2.1 11 x1.toNatClampNeg).toNatClampNeg o5.1)
def fMX12_gain_0_111 (nb : Nat) (x1 : Int32) (x2 : Int32) (x3 : Int32) (x4 : Int32) (σ : XS) : Option XS :=
if x4 = 0 then
  fMX12_gain_0_124 nb x1 x2 σ
else
  if x4 < 0 ∨ 512 ≤ x4.toNatClampNeg then none else
  fMX12_gain_0_124 nb x1 x2 (stA σ 5 x4.toNatClampNeg x3)
def fMX12_gain_0_84 (nb : Nat) (k84 : (Int32 × Int32 × Int32 × Int32 × XS) → Option XS) (x1 : Int32) (x2 : Int32) (x3 : Int32) (x4 : Int32) (σ : XS) : Option XS :=
if x4 = 0 then
  fMX12_gain_0_111 nb x1 x2 x3 x4 σ
else
  if x4 < 0 ∨ 512 ≤ x4.toNatClampNeg then none else
  if (σ.2.1 5 x4.toNatClampNeg) = 0 then
    fMX12_gain_0_111 nb x1 x2 x3 x4 σ
  else
    if x4 < 0 ∨ 512 ≤ x4.toNatClampNeg then none else
    k84 (x1, x2, x3, (σ.2.1 5 x4.toNatClampNeg), σ)
def fMX12_gain_0_40 (nb : Nat) (x1 : Int32) (x2 : Int32) (σ : XS) : Option XS :=
if x2 < (268 : Int32) then
  fMX12_gain_0_124 nb x1 x2 σ
else
  if ((x2 - (268 : Int32)) - (x2 - (268 : Int32)) / (256 : Int32) * (256 : Int32)) = 0 then
    (fMX12_take_0 nb σ).bind fun o16 =>
    if x1 < 0 ∨ 2100 ≤ x1.toNatClampNeg then none else
    if (o16.2.2.1 14 x1.toNatClampNeg) = 0 then
      if x1 < 0 ∨ 2100 ≤ x1.toNatClampNeg then none else
      lfix (fun k84 t => fMX12_gain_0_84 nb k84 t.1 t.2.1 t.2.2.1 t.2.2.2.1 t.2.2.2.2) FU (x1, x2, o16.1, (o16.2.2.1 14 x1.toNatClampNeg), (stA o16.2 14 x1.toNatClampNeg o16.1))
    else
      lfix (fun k84 t => fMX12_gain_0_84 nb k84 t.1 t.2.1 t.2.2.1 t.2.2.2.1 t.2.2.2.2) FU (x1, x2, o16.1, (o16.2.2.1 14 x1.toNatClampNeg), o16.2)
  else
    fMX12_gain_0_124 nb x1 x2 σ
def fMX12_gain_0_23 (nb : Nat) (x1 : Int32) (x2 : Int32) (σ : XS) : Option XS :=
if x2 = (268 : Int32) then
  (fMX12_take_0 nb σ).bind fun o28 =>
  if x1 < 0 ∨ 2100 ≤ x1.toNatClampNeg then none else
  fMX12_gain_0_40 nb x1 x2 (stA o28.2 13 x1.toNatClampNeg o28.1)
else
  fMX12_gain_0_40 nb x1 x2 σ
def fMX12_gain_0_0 (nb : Nat) (x1 : Int32) (σ : XS) : Option XS :=
if x1 < 0 ∨ 2100 ≤ x1.toNatClampNeg then none else
if (σ.2.1 9 x1.toNatClampNeg) = (12 : Int32) then
  (fMX12_take_0 nb σ).bind fun o32 =>
  if x1 < 0 ∨ 2100 ≤ x1.toNatClampNeg then none else
  fMX12_gain_0_23 nb x1 (σ.2.1 9 x1.toNatClampNeg) (stA o32.2 12 x1.toNatClampNeg o32.1)
else
  fMX12_gain_0_23 nb x1 (σ.2.1 9 x1.toNatClampNeg) σ
def fMX12_gain_0 (nb : Nat) (x1 : Int32) (σ : XS) : Option XS := fMX12_gain_0_0 nb x1 σ
def fMX12_blockOf_0_10 (nb : Nat) (k10 : (Int32 × Int32 × Int32 × XS) → Option (Int32 × XS)) (x2 : Int32) (x3 : Int32) (x4 : Int32) (σ : XS) : Option (Int32 × XS) :=
if x2 ≤ x4 then
  some (x3, σ)
else
  if x3 < 0 ∨ 512 ≤ x3.toNatClampNeg then none else
  k10 (x2, (σ.2.1 5 x3.toNatClampNeg), (x4 + (1 : Int32)), σ)
def fMX12_blockOf_0_0 (nb : Nat) (x1 : Int32) (x2 : Int32) (σ : XS) : Option (Int32 × XS) :=
if x1 < 0 ∨ 2100 ≤ x1.toNatClampNeg then none else
lfix (fun k10 t => fMX12_blockOf_0_10 nb k10 t.1 t.2.1 t.2.2.1 t.2.2.2) FU (x2, (σ.2.1 10 x1.toNatClampNeg), (0 : Int32), σ)
def fMX12_blockOf_0 (nb : Nat) (x1 : Int32) (x2 : Int32) (σ : XS) : Option (Int32 × XS) := fMX12_blockOf_0_0 nb x1 x2 σ
def fMX12_keep_0_287 (nb : Nat) (x1 : Int32) (x2 : Int32) (σ : XS) : Option XS :=
if x1 < 0 ∨ 2100 ≤ x1.toNatClampNeg then none else
some (stA σ 9 x1.toNatClampNeg x2)
def fMX12_keep_0_270 (nb : Nat) (x1 : Int32) (x2 : Int32) (y0 : Int32) (y1 : Int32) (σ : XS) : Option XS :=
if y1 < 0 ∨ 2100 ≤ y1.toNatClampNeg then none else
if x2 ≤ 0 then
  fMX12_keep_0_287 nb x1 x2 (stA σ 10 y1.toNatClampNeg y0)
else
  if x1 < 0 ∨ 2100 ≤ x1.toNatClampNeg then none else
  if ((stA σ 10 y1.toNatClampNeg y0).2.1 11 x1.toNatClampNeg) < 0 ∨ 512 ≤ ((stA σ 10 y1.toNatClampNeg y0).2.1 11 x1.toNatClampNeg).toNatClampNeg then none else
  fMX12_keep_0_287 nb x1 x2 (stA (stA σ 10 y1.toNatClampNeg y0) 5 ((stA σ 10 y1.toNatClampNeg y0).2.1 11 x1.toNatClampNeg).toNatClampNeg (0 : Int32))
def fMX12_keep_0_251 (nb : Nat) (x1 : Int32) (x2 : Int32) (σ : XS) : Option XS :=
if x2 = 0 then
  fMX12_keep_0_270 nb x1 x2 (0 : Int32) x1 σ
else
  if x1 < 0 ∨ 2100 ≤ x1.toNatClampNeg then none else
  fMX12_keep_0_270 nb x1 x2 (σ.2.1 10 x1.toNatClampNeg) x1 σ
def fMX12_keep_0_216 (nb : Nat) (x1 : Int32) (x2 : Int32) (σ : XS) : Option XS :=
if (268 : Int32) < x2 then
  fMX12_keep_0_251 nb x1 x2 σ
else
  if x1 < 0 ∨ 2100 ≤ x1.toNatClampNeg then none else
  if (σ.2.1 13 x1.toNatClampNeg) = 0 then
    fMX12_keep_0_251 nb x1 x2 σ
  else
    if x1 < 0 ∨ 2100 ≤ x1.toNatClampNeg then none else
    if (σ.2.1 13 x1.toNatClampNeg) < 0 ∨ 512 ≤ (σ.2.1 13 x1.toNatClampNeg).toNatClampNeg then none else
    if x1 < 0 ∨ 2100 ≤ x1.toNatClampNeg then none else
    fMX12_keep_0_251 nb x1 x2 (stA (stA σ 4 (σ.2.1 13 x1.toNatClampNeg).toNatClampNeg (vp_nar .boolean (0 : Int32))) 13 x1.toNatClampNeg (0 : Int32))
def fMX12_keep_0_181 (nb : Nat) (x1 : Int32) (x2 : Int32) (y0 : Int32) (y1 : Int32) (σ : XS) : Option XS :=
if y1 < 0 ∨ 2100 ≤ y1.toNatClampNeg then none else
if (12 : Int32) < x2 then
  fMX12_keep_0_216 nb x1 x2 (stA σ 14 y1.toNatClampNeg y0)
else
  if x1 < 0 ∨ 2100 ≤ x1.toNatClampNeg then none else
  if ((stA σ 14 y1.toNatClampNeg y0).2.1 12 x1.toNatClampNeg) = 0 then
    fMX12_keep_0_216 nb x1 x2 (stA σ 14 y1.toNatClampNeg y0)
  else
    if x1 < 0 ∨ 2100 ≤ x1.toNatClampNeg then none else
    if ((stA σ 14 y1.toNatClampNeg y0).2.1 12 x1.toNatClampNeg) < 0 ∨ 512 ≤ ((stA σ 14 y1.toNatClampNeg y0).2.1 12 x1.toNatClampNeg).toNatClampNeg then none else
    if x1 < 0 ∨ 2100 ≤ x1.toNatClampNeg then none else
    fMX12_keep_0_216 nb x1 x2 (stA (stA (stA σ 14 y1.toNatClampNeg y0) 4 ((stA σ 14 y1.toNatClampNeg y0).2.1 12 x1.toNatClampNeg).toNatClampNeg (vp_nar .boolean (0 : Int32))) 12 x1.toNatClampNeg (0 : Int32))
def fMX12_keep_0_161 (nb : Nat) (x1 : Int32) (x2 : Int32) (x5 : Int32) (σ : XS) : Option XS :=
if x5 = 0 then
  fMX12_keep_0_181 nb x1 x2 (0 : Int32) x1 σ
else
  if x1 < 0 ∨ 2100 ≤ x1.toNatClampNeg then none else
  fMX12_keep_0_181 nb x1 x2 (σ.2.1 14 x1.toNatClampNeg) x1 σ
def fMX12_keep_0_133 (nb : Nat) (k100 : (Int32 × Int32 × Int32 × Int32 × Int32 × Int32 × XS) → Option XS) (x1 : Int32) (x2 : Int32) (x4 : Int32) (x5 : Int32) (x6 : Int32) (x7 : Int32) (σ : XS) : Option XS :=
if x4 < 0 ∨ 512 ≤ x4.toNatClampNeg then none else
k100 (x1, x2, (σ.2.1 5 x4.toNatClampNeg), x5, (x6 + (1 : Int32)), x7, σ)
def fMX12_keep_0_120 (nb : Nat) (k100 : (Int32 × Int32 × Int32 × Int32 × Int32 × Int32 × XS) → Option XS) (x1 : Int32) (x2 : Int32) (x4 : Int32) (x5 : Int32) (x6 : Int32) (x7 : Int32) (σ : XS) : Option XS :=
if x6 = (x5 - (1 : Int32)) then
  fMX12_keep_0_133 nb k100 x1 x2 x4 x5 x6 x4 σ
else
  fMX12_keep_0_133 nb k100 x1 x2 x4 x5 x6 x7 σ
def fMX12_keep_0_100 (nb : Nat) (k100 : (Int32 × Int32 × Int32 × Int32 × Int32 × Int32 × XS) → Option XS) (x1 : Int32) (x2 : Int32) (x4 : Int32) (x5 : Int32) (x6 : Int32) (x7 : Int32) (σ : XS) : Option XS :=
if x4 = 0 then
  if x7 = 0 then
    fMX12_keep_0_161 nb x1 x2 x5 σ
  else
    if x7 < 0 ∨ 512 ≤ x7.toNatClampNeg then none else
    fMX12_keep_0_161 nb x1 x2 x5 (stA σ 5 x7.toNatClampNeg (0 : Int32))
else
  if x6 < x5 then
    fMX12_keep_0_120 nb k100 x1 x2 x4 x5 x6 x7 σ
  else
    if x4 < 0 ∨ 512 ≤ x4.toNatClampNeg then none else
    fMX12_keep_0_120 nb k100 x1 x2 x4 x5 x6 x7 (stA σ 4 x4.toNatClampNeg (vp_nar .boolean (0 : Int32)))
def fMX12_keep_0_92 (nb : Nat) (x1 : Int32) (x2 : Int32) (x4 : Int32) (y0 : Int32) (σ : XS) : Option XS :=
lfix (fun k100 t => fMX12_keep_0_100 nb k100 t.1 t.2.1 t.2.2.1 t.2.2.2.1 t.2.2.2.2.1 t.2.2.2.2.2.1 t.2.2.2.2.2.2) FU (x1, x2, x4, y0, (0 : Int32), (0 : Int32), σ)
def fMX12_keep_0_49 (nb : Nat) (k10 : (Int32 × Int32 × Int32 × Int32 × XS) → Option XS) (x1 : Int32) (x2 : Int32) (x3 : Int32) (x4 : Int32) (σ : XS) : Option XS :=
if x3 < 0 ∨ 512 ≤ x3.toNatClampNeg then none else
k10 (x1, x2, (σ.2.1 5 x3.toNatClampNeg), (x4 + (1 : Int32)), σ)
def fMX12_keep_0_34 (nb : Nat) (k10 : (Int32 × Int32 × Int32 × Int32 × XS) → Option XS) (x1 : Int32) (x2 : Int32) (x3 : Int32) (x4 : Int32) (σ : XS) : Option XS :=
if x4 = (x2 - (1 : Int32)) then
  if x1 < 0 ∨ 2100 ≤ x1.toNatClampNeg then none else
  fMX12_keep_0_49 nb k10 x1 x2 x3 x4 (stA σ 11 x1.toNatClampNeg x3)
else
  fMX12_keep_0_49 nb k10 x1 x2 x3 x4 σ
def fMX12_keep_0_10 (nb : Nat) (k10 : (Int32 × Int32 × Int32 × Int32 × XS) → Option XS) (x1 : Int32) (x2 : Int32) (x3 : Int32) (x4 : Int32) (σ : XS) : Option XS :=
if x1 < 0 ∨ 2100 ≤ x1.toNatClampNeg then none else
if (σ.2.1 9 x1.toNatClampNeg) ≤ x4 then
  if x1 < 0 ∨ 2100 ≤ x1.toNatClampNeg then none else
  if x2 ≤ (268 : Int32) then
    fMX12_keep_0_92 nb x1 x2 (σ.2.1 14 x1.toNatClampNeg) (0 : Int32) σ
  else
    (fMX12_parts nb (x2 - (268 : Int32)) (256 : Int32) σ).bind fun o35 =>
    fMX12_keep_0_92 nb x1 x2 (σ.2.1 14 x1.toNatClampNeg) o35.1 o35.2
else
  if x4 < x2 then
    fMX12_keep_0_34 nb k10 x1 x2 x3 x4 σ
  else
    if x3 < 0 ∨ 512 ≤ x3.toNatClampNeg then none else
    fMX12_keep_0_34 nb k10 x1 x2 x3 x4 (stA σ 4 x3.toNatClampNeg (vp_nar .boolean (0 : Int32)))
def fMX12_keep_0_0 (nb : Nat) (x1 : Int32) (x2 : Int32) (σ : XS) : Option XS :=
if x1 < 0 ∨ 2100 ≤ x1.toNatClampNeg then none else
lfix (fun k10 t => fMX12_keep_0_10 nb k10 t.1 t.2.1 t.2.2.1 t.2.2.2.1 t.2.2.2.2) FU (x1, x2, (σ.2.1 10 x1.toNatClampNeg), (0 : Int32), σ)
def fMX12_keep_0 (nb : Nat) (x1 : Int32) (x2 : Int32) (σ : XS) : Option XS := fMX12_keep_0_0 nb x1 x2 σ
def fMX12_one_0_0 (nb : Nat) (x1 : Int32) (σ : XS) : Option (Int32 × XS) :=
if x1 < 0 ∨ 524288 ≤ x1.toNatClampNeg then none else
some (((σ.2.1 0 x1.toNatClampNeg) &&& (255 : Int32)), σ)
def fMX12_one_0 (nb : Nat) (x1 : Int32) (σ : XS) : Option (Int32 × XS) := fMX12_one_0_0 nb x1 σ
def fMX12_two_0_0 (nb : Nat) (x1 : Int32) (σ : XS) : Option (Int32 × XS) :=
(fMX12_one_0 nb x1 σ).bind fun o1 =>
(fMX12_one_0 nb (x1 + (1 : Int32)) o1.2).bind fun o4 =>
some ((o1.1 + ((256 : Int32) * o4.1)), o4.2)
def fMX12_two_0 (nb : Nat) (x1 : Int32) (σ : XS) : Option (Int32 × XS) := fMX12_two_0_0 nb x1 σ
def fMX12_four_0_0 (nb : Nat) (x1 : Int32) (σ : XS) : Option (Int32 × XS) :=
(fMX12_two_0 nb x1 σ).bind fun o1 =>
(fMX12_two_0 nb (x1 + (2 : Int32)) o1.2).bind fun o4 =>
some ((o1.1 + ((65536 : Int32) * o4.1)), o4.2)
def fMX12_four_0 (nb : Nat) (x1 : Int32) (σ : XS) : Option (Int32 × XS) := fMX12_four_0_0 nb x1 σ
def fMX12_set_0_3 (nb : Nat) (k3 : (Int32 × Int32 × Int32 × Int32 × XS) → Option XS) (x1 : Int32) (x2 : Int32) (x3 : Int32) (x4 : Int32) (σ : XS) : Option XS :=
if x2 ≤ x4 then
  some σ
else
  if (x1 + x4) < 0 ∨ 524288 ≤ (x1 + x4).toNatClampNeg then none else
  k3 (x1, x2, x3, (x4 + (1 : Int32)), (stA σ 0 (x1 + x4).toNatClampNeg (vp_nar .byte ((x3 >>> (((8 : Int32) * x4) &&& 31)).toInt8.toInt32))))
def fMX12_set_0_0 (nb : Nat) (x1 : Int32) (x2 : Int32) (x3 : Int32) (σ : XS) : Option XS :=
lfix (fun k3 t => fMX12_set_0_3 nb k3 t.1 t.2.1 t.2.2.1 t.2.2.2.1 t.2.2.2.2) FU (x1, x2, x3, (0 : Int32), σ)
def fMX12_set_0 (nb : Nat) (x1 : Int32) (x2 : Int32) (x3 : Int32) (σ : XS) : Option XS := fMX12_set_0_0 nb x1 x2 x3 σ
def fMX12_entry_0_84 (nb : Nat) (k84 : (Int32 × Int32 × XS) → Option XS) (x1 : Int32) (x6 : Int32) (σ : XS) : Option XS :=
if (σ.1 12) ≤ x6 then
  some σ
else
  if x6 < 0 ∨ 255 ≤ x6.toNatClampNeg then none else
  if ((x1 + (8 : Int32)) + x6) < 0 ∨ 524288 ≤ ((x1 + (8 : Int32)) + x6).toNatClampNeg then none else
  k84 (x1, (x6 + (1 : Int32)), (stA σ 0 ((x1 + (8 : Int32)) + x6).toNatClampNeg (vp_nar .byte ((σ.2.1 17 x6.toNatClampNeg).toInt8.toInt32))))
def fMX12_entry_0_18 (nb : Nat) (k18 : (Int32 × Int32 × Int32 × Int32 × Int32 × Int32 × XS) → Option XS) (x1 : Int32) (x2 : Int32) (x3 : Int32) (x4 : Int32) (x5 : Int32) (x6 : Int32) (σ : XS) : Option XS :=
if x5 ≤ x6 then
  (fMX12_set_0 nb x1 (4 : Int32) x2 σ).bind fun o5 =>
  (fMX12_set_0 nb (x1 + (4 : Int32)) (2 : Int32) x3 o5).bind fun o8 =>
  (fMX12_set_0 nb (x1 + (6 : Int32)) (1 : Int32) (o8.1 12) o8).bind fun o11 =>
  (fMX12_set_0 nb (x1 + (7 : Int32)) (1 : Int32) x4 o11).bind fun o14 =>
  lfix (fun k84 t => fMX12_entry_0_84 nb k84 t.1 t.2.1 t.2.2) FU (x1, (0 : Int32), o14)
else
  if (x1 + x6) < 0 ∨ 524288 ≤ (x1 + x6).toNatClampNeg then none else
  k18 (x1, x2, x3, x4, x5, (x6 + (1 : Int32)), (stA σ 0 (x1 + x6).toNatClampNeg (vp_nar .byte (0 : Int32))))
def fMX12_entry_0_0 (nb : Nat) (x1 : Int32) (x2 : Int32) (x3 : Int32) (x4 : Int32) (σ : XS) : Option XS :=
(fMX12_parts nb (σ.1 12) (4 : Int32) σ).bind fun o1 =>
lfix (fun k18 t => fMX12_entry_0_18 nb k18 t.1 t.2.1 t.2.2.1 t.2.2.2.1 t.2.2.2.2.1 t.2.2.2.2.2.1 t.2.2.2.2.2.2) FU (x1, x2, x3, x4, ((8 : Int32) + (o1.1 * (4 : Int32))), (0 : Int32), o1.2)
def fMX12_entry_0 (nb : Nat) (x1 : Int32) (x2 : Int32) (x3 : Int32) (x4 : Int32) (σ : XS) : Option XS := fMX12_entry_0_0 nb x1 x2 x3 x4 σ
def fMX12_folder_0_0 (nb : Nat) (x1 : Int32) (σ : XS) : Option XS :=
(fMX12_gain_0 nb x1 σ).bind fun o1 =>
if x1 < 0 ∨ 2100 ≤ x1.toNatClampNeg then none else
if (0 : Int32) < 0 ∨ 255 ≤ (0 : Int32).toNatClampNeg then none else
if (1 : Int32) < 0 ∨ 255 ≤ (1 : Int32).toNatClampNeg then none else
if (0 : Int32) < 0 ∨ 255 ≤ (0 : Int32).toNatClampNeg then none else
if (1 : Int32) < 0 ∨ 255 ≤ (1 : Int32).toNatClampNeg then none else
if x1 < 0 ∨ 2100 ≤ x1.toNatClampNeg then none else
(fMX12_entry_0 nb ((1024 : Int32) * ((stS (stA (stA (stA o1 7 x1.toNatClampNeg (1024 : Int32)) 17 (0 : Int32).toNatClampNeg (46 : Int32)) 17 (1 : Int32).toNatClampNeg (46 : Int32)) 12 (1 : Int32)).2.1 10 x1.toNatClampNeg)) x1 (12 : Int32) (2 : Int32) (stS (stA (stA (stA o1 7 x1.toNatClampNeg (1024 : Int32)) 17 (0 : Int32).toNatClampNeg (46 : Int32)) 17 (1 : Int32).toNatClampNeg (46 : Int32)) 12 (1 : Int32))).bind fun o10 =>
if x1 < 0 ∨ 2100 ≤ x1.toNatClampNeg then none else
if x1 < 0 ∨ 2100 ≤ x1.toNatClampNeg then none else
(fMX12_entry_0 nb (((1024 : Int32) * ((stS o10 12 (2 : Int32)).2.1 10 x1.toNatClampNeg)) + (12 : Int32)) ((stS o10 12 (2 : Int32)).2.1 15 x1.toNatClampNeg) (1012 : Int32) (2 : Int32) (stS o10 12 (2 : Int32))).bind fun o15 =>
if (0 : Int32) < 0 ∨ 255 ≤ (0 : Int32).toNatClampNeg then none else
if (1 : Int32) < 0 ∨ 255 ≤ (1 : Int32).toNatClampNeg then none else
some (stS (stA (stA o15 17 (0 : Int32).toNatClampNeg ((stA o1 7 x1.toNatClampNeg (1024 : Int32)).2.1 17 (0 : Int32).toNatClampNeg)) 17 (1 : Int32).toNatClampNeg ((stA o1 7 x1.toNatClampNeg (1024 : Int32)).2.1 17 (1 : Int32).toNatClampNeg)) 12 (o1.1 12))
def fMX12_folder_0 (nb : Nat) (x1 : Int32) (σ : XS) : Option XS := fMX12_folder_0_0 nb x1 σ
def fMX12_clear_0_58 (nb : Nat) (k58 : (Int32 × Int32 × XS) → Option XS) (x1 : Int32) (x2 : Int32) (σ : XS) : Option XS :=
if (3 : Int32) ≤ x2 then
  some σ
else
  if (((3 : Int32) * x1) + x2) < 0 ∨ 6300 ≤ (((3 : Int32) * x1) + x2).toNatClampNeg then none else
  k58 (x1, (x2 + (1 : Int32)), (stL σ 0 (((3 : Int32) * x1) + x2).toNatClampNeg (0 : Int64)))
def fMX12_clear_0_0 (nb : Nat) (x1 : Int32) (σ : XS) : Option XS :=
if x1 < 0 ∨ 2100 ≤ x1.toNatClampNeg then none else
if x1 < 0 ∨ 2100 ≤ x1.toNatClampNeg then none else
if x1 < 0 ∨ 2100 ≤ x1.toNatClampNeg then none else
if x1 < 0 ∨ 2100 ≤ x1.toNatClampNeg then none else
if x1 < 0 ∨ 2100 ≤ x1.toNatClampNeg then none else
if x1 < 0 ∨ 2100 ≤ x1.toNatClampNeg then none else
if x1 < 0 ∨ 2100 ≤ x1.toNatClampNeg then none else
if x1 < 0 ∨ 2100 ≤ x1.toNatClampNeg then none else
lfix (fun k58 t => fMX12_clear_0_58 nb k58 t.1 t.2.1 t.2.2) FU (x1, (0 : Int32), (stA (stA (stA (stA (stA (stA (stA (stA σ 7 x1.toNatClampNeg (0 : Int32)) 8 x1.toNatClampNeg (0 : Int32)) 9 x1.toNatClampNeg (0 : Int32)) 10 x1.toNatClampNeg (0 : Int32)) 11 x1.toNatClampNeg (0 : Int32)) 12 x1.toNatClampNeg (0 : Int32)) 13 x1.toNatClampNeg (0 : Int32)) 14 x1.toNatClampNeg (0 : Int32)))
def fMX12_clear_0 (nb : Nat) (x1 : Int32) (σ : XS) : Option XS := fMX12_clear_0_0 nb x1 σ
def fMX12_format_0_270 (nb : Nat) (k239 : (Int32 × XS) → Option (Int32 × XS)) (x7 : Int32) (y0 : Int32) (y1 : Int32) (σ : XS) : Option (Int32 × XS) :=
if y1 < 0 ∨ 2100 ≤ y1.toNatClampNeg then none else
(fMX12_clear_0 nb x7 (stA σ 6 y1.toNatClampNeg y0)).bind fun o27 =>
k239 ((x7 + (1 : Int32)), o27)
def fMX12_format_0_269 (nb : Nat) (k239 : (Int32 × XS) → Option (Int32 × XS)) (x7 : Int32) (y0 : Int32) (σ : XS) : Option (Int32 × XS) :=
fMX12_format_0_270 nb k239 x7 (0 : Int32) y0 σ
def fMX12_format_0_239 (nb : Nat) (k239 : (Int32 × XS) → Option (Int32 × XS)) (x7 : Int32) (σ : XS) : Option (Int32 × XS) :=
if (2100 : Int32) ≤ x7 then
  if (2 : Int32) < 0 ∨ 2100 ≤ (2 : Int32).toNatClampNeg then none else
  if (2 : Int32) < 0 ∨ 2100 ≤ (2 : Int32).toNatClampNeg then none else
  if (2 : Int32) < 0 ∨ 2100 ≤ (2 : Int32).toNatClampNeg then none else
  (fMX12_folder_0 nb (2 : Int32) (stA (stA (stA σ 6 (2 : Int32).toNatClampNeg (2 : Int32)) 15 (2 : Int32).toNatClampNeg (2 : Int32)) 8 (2 : Int32).toNatClampNeg (2 : Int32))).bind fun o19 =>
  (fMX12_freeBlocks_0 nb (stS (stS (stS o19 9 (2 : Int32)) 2 (1 : Int32)) 3 (0 : Int32))).bind fun o22 =>
  some (o22.1, o22.2)
else
  if x7 ≤ 0 then
    fMX12_format_0_269 nb k239 x7 x7 σ
  else
    if (12 : Int32) ≤ x7 then
      fMX12_format_0_269 nb k239 x7 x7 σ
    else
      fMX12_format_0_270 nb k239 x7 (3 : Int32) x7 σ
def fMX12_format_0_229 (nb : Nat) (k192 : (Int32 × XS) → Option (Int32 × XS)) (x7 : Int32) (y0 : Int32) (y1 : Int32) (σ : XS) : Option (Int32 × XS) :=
if y1 < 0 ∨ 512 ≤ y1.toNatClampNeg then none else
k192 ((x7 + (1 : Int32)), (stA σ 4 y1.toNatClampNeg (vp_nar .boolean y0)))
def fMX12_format_0_224 (nb : Nat) (k192 : (Int32 × XS) → Option (Int32 × XS)) (x7 : Int32) (y0 : Int32) (σ : XS) : Option (Int32 × XS) :=
fMX12_format_0_229 nb k192 x7 (1 : Int32) y0 σ
def fMX12_format_0_192 (nb : Nat) (k192 : (Int32 × XS) → Option (Int32 × XS)) (x7 : Int32) (σ : XS) : Option (Int32 × XS) :=
if (512 : Int32) ≤ x7 then
  lfix (fun k239 t => fMX12_format_0_239 nb k239 t.1 t.2) FU ((0 : Int32), σ)
else
  if (Int32.ofNat nb) ≤ x7 then
    fMX12_format_0_224 nb k192 x7 x7 σ
  else
    (fMX12_isFixed_0 nb x7 σ).bind fun o33 =>
    if o33.1 = 0 then
      fMX12_format_0_229 nb k192 x7 (0 : Int32) x7 o33.2
    else
      fMX12_format_0_224 nb k192 x7 x7 o33.2
def fMX12_format_0_144 (nb : Nat) (x1 : Int32) (x3 : Int32) (x4 : Int32) (x5 : Int32) (y0 : Int32) (σ : XS) : Option (Int32 × XS) :=
if y0 ≤ 0 then
  lfix (fun k192 t => fMX12_format_0_192 nb k192 t.1 t.2) FU ((0 : Int32), (stS (stS (stS (stS (stS (stS σ 0 y0) 4 x1) 7 x4) 5 x5) 6 (x5 / (8 : Int32))) 8 x3))
else
  some ((0 : Int32), (stS σ 0 y0))
def fMX12_format_0_139 (nb : Nat) (x1 : Int32) (x3 : Int32) (x4 : Int32) (x5 : Int32) (σ : XS) : Option (Int32 × XS) :=
fMX12_format_0_144 nb x1 x3 x4 x5 (1 : Int32) σ
def fMX12_format_0_126 (nb : Nat) (x1 : Int32) (x3 : Int32) (x4 : Int32) (x5 : Int32) (x6 : Int32) (σ : XS) : Option (Int32 × XS) :=
if ((12 : Int32) + (x5 / (8 : Int32))) ≤ x6 then
  fMX12_format_0_144 nb x1 x3 x4 x5 (0 : Int32) σ
else
  fMX12_format_0_139 nb x1 x3 x4 x5 σ
def fMX12_format_0_105 (nb : Nat) (x1 : Int32) (x3 : Int32) (x4 : Int32) (x5 : Int32) (y0 : Int32) (σ : XS) : Option (Int32 × XS) :=
if ((12 : Int32) + (x5 / (8 : Int32))) ≤ x1 then
  fMX12_format_0_126 nb x1 x3 x4 x5 y0 σ
else
  if (1 : Int32) < x4 then
    fMX12_format_0_139 nb x1 x3 x4 x5 σ
  else
    fMX12_format_0_126 nb x1 x3 x4 x5 y0 σ
def fMX12_format_0_39 (nb : Nat) (x1 : Int32) (x2 : Int32) (x3 : Int32) (y0 : Int32) (σ : XS) : Option (Int32 × XS) :=
if y0 ≤ 0 then
  (fMX12_parts nb ((Int32.ofNat nb) - (1 : Int32)) x1 (stS σ 0 y0)).bind fun o4 =>
  (fMX12_parts nb x2 ((8 : Int32) * o4.1) o4.2).bind fun o7 =>
  if o4.1 = (1 : Int32) then
    fMX12_format_0_105 nb x1 x3 o4.1 (o7.1 * (8 : Int32)) ((Int32.ofNat nb) - (1 : Int32)) o7.2
  else
    fMX12_format_0_105 nb x1 x3 o4.1 (o7.1 * (8 : Int32)) (((Int32.ofNat nb) - (1 : Int32)) - ((o4.1 - (1 : Int32)) * x1)) o7.2
else
  some ((0 : Int32), (stS σ 0 y0))
def fMX12_format_0_34 (nb : Nat) (x1 : Int32) (x2 : Int32) (x3 : Int32) (σ : XS) : Option (Int32 × XS) :=
fMX12_format_0_39 nb x1 x2 x3 (1 : Int32) σ
def fMX12_format_0_21 (nb : Nat) (x1 : Int32) (x2 : Int32) (x3 : Int32) (σ : XS) : Option (Int32 × XS) :=
if x2 < (12 : Int32) then
  fMX12_format_0_34 nb x1 x2 x3 σ
else
  if x2 ≤ (2000 : Int32) then
    fMX12_format_0_39 nb x1 x2 x3 (0 : Int32) σ
  else
    fMX12_format_0_34 nb x1 x2 x3 σ
def fMX12_format_0_0 (nb : Nat) (x1 : Int32) (x2 : Int32) (x3 : Int32) (σ : XS) : Option (Int32 × XS) :=
if x1 = (64 : Int32) then
  fMX12_format_0_21 nb x1 x2 x3 σ
else
  if x1 = (128 : Int32) then
    fMX12_format_0_21 nb x1 x2 x3 σ
  else
    if x1 = (256 : Int32) then
      fMX12_format_0_21 nb x1 x2 x3 σ
    else
      fMX12_format_0_34 nb x1 x2 x3 σ
def fMX12_format_0 (nb : Nat) (x1 : Int32) (x2 : Int32) (x3 : Int32) (σ : XS) : Option (Int32 × XS) := fMX12_format_0_0 nb x1 x2 x3 σ
def fMX12_put_0_3 (nb : Nat) (k3 : (Int32 × Int32 × Int64 × Int32 × XS) → Option XS) (x1 : Int32) (x2 : Int32) (x3 : Int64) (x5 : Int32) (σ : XS) : Option XS :=
if x2 ≤ x5 then
  some σ
else
  if (x1 + x5) < 0 ∨ 524288 ≤ (x1 + x5).toNatClampNeg then none else
  k3 (x1, x2, x3, (x5 + (1 : Int32)), (stA σ 1 (x1 + x5).toNatClampNeg (vp_nar .byte (((x3 >>> (((8 : Int32) * x5).toInt64 &&& 63)).toInt32).toInt8.toInt32))))
def fMX12_put_0_0 (nb : Nat) (x1 : Int32) (x2 : Int32) (x3 : Int64) (σ : XS) : Option XS :=
lfix (fun k3 t => fMX12_put_0_3 nb k3 t.1 t.2.1 t.2.2.1 t.2.2.2.1 t.2.2.2.2) FU (x1, x2, x3, (0 : Int32), σ)
def fMX12_put_0 (nb : Nat) (x1 : Int32) (x2 : Int32) (x3 : Int64) (σ : XS) : Option XS := fMX12_put_0_0 nb x1 x2 x3 σ
def fMX12_inodeAt_0_0 (nb : Nat) (x1 : Int32) (σ : XS) : Option (Int32 × XS) :=
if (σ.1 5) = 0 then none else
(fMX12_begin_0 nb ((x1 - (1 : Int32)) / (σ.1 5)) σ).bind fun o2 =>
if (o2.2.1 5) = 0 then none else
some ((((1024 : Int32) * (o2.1 + (4 : Int32))) + ((128 : Int32) * ((x1 - (1 : Int32)) - (x1 - (1 : Int32)) / (o2.2.1 5) * (o2.2.1 5)))), o2.2)
def fMX12_inodeAt_0 (nb : Nat) (x1 : Int32) (σ : XS) : Option (Int32 × XS) := fMX12_inodeAt_0_0 nb x1 σ
def fMX12_showInode_0_340 (nb : Nat) (k169 : (Int32 × Int32 × Int32 × Int32 × Int32 × XS) → Option XS) (k340 : (Int32 × Int32 × Int32 × Int32 × Int32 × Int32 × XS) → Option XS) (x1 : Int32) (x2 : Int32) (x3 : Int32) (x4 : Int32) (x5 : Int32) (x6 : Int32) (σ : XS) : Option XS :=
if (1024 : Int32) ≤ x6 then
  if x4 < 0 ∨ 512 ≤ x4.toNatClampNeg then none else
  k169 (x1, x2, x3, (σ.2.1 5 x4.toNatClampNeg), (x5 + (1 : Int32)), σ)
else
  if (((1024 : Int32) * x4) + x6) < 0 ∨ 524288 ≤ (((1024 : Int32) * x4) + x6).toNatClampNeg then none else
  if (((1024 : Int32) * x4) + x6) < 0 ∨ 524288 ≤ (((1024 : Int32) * x4) + x6).toNatClampNeg then none else
  k340 (x1, x2, x3, x4, x5, (x6 + (1 : Int32)), (stA σ 1 (((1024 : Int32) * x4) + x6).toNatClampNeg (vp_nar .byte (σ.2.1 0 (((1024 : Int32) * x4) + x6).toNatClampNeg))))
def fMX12_showInode_0_337 (nb : Nat) (k169 : (Int32 × Int32 × Int32 × Int32 × Int32 × XS) → Option XS) (x1 : Int32) (x2 : Int32) (x3 : Int32) (x4 : Int32) (x5 : Int32) (σ : XS) : Option XS :=
lfix (fun k340 t => fMX12_showInode_0_340 nb k169 k340 t.1 t.2.1 t.2.2.1 t.2.2.2.1 t.2.2.2.2.1 t.2.2.2.2.2.1 t.2.2.2.2.2.2) FU (x1, x2, x3, x4, x5, (0 : Int32), σ)
def fMX12_showInode_0_311 (nb : Nat) (k169 : (Int32 × Int32 × Int32 × Int32 × Int32 × XS) → Option XS) (x1 : Int32) (x2 : Int32) (x3 : Int32) (x4 : Int32) (x5 : Int32) (σ : XS) : Option XS :=
(fMX12_put_0 nb (((1024 : Int32) * x3) + (((x5 - (268 : Int32)) - (x5 - (268 : Int32)) / (256 : Int32) * (256 : Int32)) * (4 : Int32))) (4 : Int32) x4.toInt64 σ).bind fun o40 =>
fMX12_showInode_0_337 nb k169 x1 x2 x3 x4 x5 o40
def fMX12_showInode_0_280 (nb : Nat) (k169 : (Int32 × Int32 × Int32 × Int32 × Int32 × XS) → Option XS) (x1 : Int32) (x2 : Int32) (x4 : Int32) (x5 : Int32) (y0 : Int32) (σ : XS) : Option XS :=
if x1 < 0 ∨ 2100 ≤ x1.toNatClampNeg then none else
(fMX12_put_0 nb (((1024 : Int32) * (σ.2.1 13 x1.toNatClampNeg)) + (((x5 - (268 : Int32)) / (256 : Int32)) * (4 : Int32))) (4 : Int32) y0.toInt64 σ).bind fun o50 =>
fMX12_showInode_0_311 nb k169 x1 x2 y0 x4 x5 o50
def fMX12_showInode_0_169 (nb : Nat) (k169 : (Int32 × Int32 × Int32 × Int32 × Int32 × XS) → Option XS) (x1 : Int32) (x2 : Int32) (x3 : Int32) (x4 : Int32) (x5 : Int32) (σ : XS) : Option XS :=
if x1 < 0 ∨ 2100 ≤ x1.toNatClampNeg then none else
if (σ.2.1 9 x1.toNatClampNeg) ≤ x5 then
  some σ
else
  if (12 : Int32) ≤ x5 then
    if (268 : Int32) ≤ x5 then
      if ((x5 - (268 : Int32)) - (x5 - (268 : Int32)) / (256 : Int32) * (256 : Int32)) = 0 then
        if x5 = (268 : Int32) then
          if x1 < 0 ∨ 2100 ≤ x1.toNatClampNeg then none else
          fMX12_showInode_0_280 nb k169 x1 x2 x4 x5 (σ.2.1 14 x1.toNatClampNeg) σ
        else
          if x3 < 0 ∨ 512 ≤ x3.toNatClampNeg then none else
          fMX12_showInode_0_280 nb k169 x1 x2 x4 x5 (σ.2.1 5 x3.toNatClampNeg) σ
      else
        fMX12_showInode_0_311 nb k169 x1 x2 x3 x4 x5 σ
    else
      if x1 < 0 ∨ 2100 ≤ x1.toNatClampNeg then none else
      (fMX12_put_0 nb (((1024 : Int32) * (σ.2.1 12 x1.toNatClampNeg)) + ((4 : Int32) * (x5 - (12 : Int32)))) (4 : Int32) x4.toInt64 σ).bind fun o55 =>
      fMX12_showInode_0_337 nb k169 x1 x2 x3 x4 x5 o55
  else
    (fMX12_put_0 nb ((x2 + (40 : Int32)) + ((4 : Int32) * x5)) (4 : Int32) x4.toInt64 σ).bind fun o58 =>
    fMX12_showInode_0_337 nb k169 x1 x2 x3 x4 x5 o58
def fMX12_showInode_0_48 (nb : Nat) (k48 : (Int32 × Int32 × Int32 × XS) → Option XS) (x1 : Int32) (x2 : Int32) (x3 : Int32) (σ : XS) : Option XS :=
if (3 : Int32) ≤ x3 then
  if x1 < 0 ∨ 2100 ≤ x1.toNatClampNeg then none else
  (fMX12_put_0 nb (x2 + (26 : Int32)) (2 : Int32) ((σ.2.1 8 x1.toNatClampNeg).toInt64) σ).bind fun o15 =>
  if x1 < 0 ∨ 2100 ≤ x1.toNatClampNeg then none else
  (fMX12_all nb (o15.2.1 9 x1.toNatClampNeg) o15).bind fun o19 =>
  (fMX12_put_0 nb (x2 + (28 : Int32)) (4 : Int32) (((2 : Int32) * o19.1).toInt64) o19.2).bind fun o22 =>
  if x1 < 0 ∨ 2100 ≤ x1.toNatClampNeg then none else
  (fMX12_put_0 nb (x2 + (88 : Int32)) (4 : Int32) ((o22.2.1 12 x1.toNatClampNeg).toInt64) o22).bind fun o26 =>
  if x1 < 0 ∨ 2100 ≤ x1.toNatClampNeg then none else
  (fMX12_put_0 nb (x2 + (92 : Int32)) (4 : Int32) ((o26.2.1 13 x1.toNatClampNeg).toInt64) o26).bind fun o30 =>
  if x1 < 0 ∨ 2100 ≤ x1.toNatClampNeg then none else
  if x1 < 0 ∨ 2100 ≤ x1.toNatClampNeg then none else
  lfix (fun k169 t => fMX12_showInode_0_169 nb k169 t.1 t.2.1 t.2.2.1 t.2.2.2.1 t.2.2.2.2.1 t.2.2.2.2.2) FU (x1, x2, (o30.2.1 14 x1.toNatClampNeg), (o30.2.1 10 x1.toNatClampNeg), (0 : Int32), o30)
else
  if (((3 : Int32) * x1) + x3) < 0 ∨ 6300 ≤ (((3 : Int32) * x1) + x3).toNatClampNeg then none else
  (fMX12_put_0 nb ((x2 + (8 : Int32)) + ((4 : Int32) * x3)) (4 : Int32) (σ.2.2 0 (((3 : Int32) * x1) + x3).toNatClampNeg) σ).bind fun o62 =>
  k48 (x1, x2, (x3 + (1 : Int32)), o62)
def fMX12_showInode_0_28 (nb : Nat) (x1 : Int32) (x2 : Int32) (y0 : Int64) (y1 : Int32) (y2 : Int32) (σ : XS) : Option XS :=
(fMX12_put_0 nb y2 y1 y0 σ).bind fun o6 =>
if x1 < 0 ∨ 2100 ≤ x1.toNatClampNeg then none else
(fMX12_put_0 nb (x2 + (4 : Int32)) (4 : Int32) ((o6.2.1 7 x1.toNatClampNeg).toInt64) o6).bind fun o10 =>
lfix (fun k48 t => fMX12_showInode_0_48 nb k48 t.1 t.2.1 t.2.2.1 t.2.2.2) FU (x1, x2, (0 : Int32), o10)
def fMX12_showInode_0_0 (nb : Nat) (x1 : Int32) (σ : XS) : Option XS :=
(fMX12_inodeAt_0 nb x1 σ).bind fun o1 =>
if x1 < 0 ∨ 2100 ≤ x1.toNatClampNeg then none else
if (o1.2.2.1 6 x1.toNatClampNeg) = (2 : Int32) then
  fMX12_showInode_0_28 nb x1 o1.1 (16877 : Int64) (2 : Int32) o1.1 o1.2
else
  fMX12_showInode_0_28 nb x1 o1.1 (33188 : Int64) (2 : Int32) o1.1 o1.2
def fMX12_showInode_0 (nb : Nat) (x1 : Int32) (σ : XS) : Option XS := fMX12_showInode_0_0 nb x1 σ
def fMX12_showGroup_0_221 (nb : Nat) (k221 : (Int32 × Int32 × Int32 × Int32 × Int32 × XS) → Option XS) (x1 : Int32) (x3 : Int32) (x4 : Int32) (x5 : Int32) (x6 : Int32) (σ : XS) : Option XS :=
if (σ.1 7) ≤ x6 then
  (fMX12_begin_0 nb x1 σ).bind fun o6 =>
  (fMX12_put_0 nb ((1024 : Int32) * o6.1) (4 : Int32) (((o6.2.1 7) * (o6.2.1 5)).toInt64) o6.2).bind fun o9 =>
  (fMX12_put_0 nb (((1024 : Int32) * o6.1) + (4 : Int32)) (4 : Int32) ((Int32.ofNat nb).toInt64) o9).bind fun o12 =>
  (fMX12_freeBlocks_0 nb o12).bind fun o15 =>
  (fMX12_put_0 nb (((1024 : Int32) * o6.1) + (12 : Int32)) (4 : Int32) o15.1.toInt64 o15.2).bind fun o18 =>
  (fMX12_freeInodes_0 nb o18).bind fun o21 =>
  (fMX12_put_0 nb (((1024 : Int32) * o6.1) + (16 : Int32)) (4 : Int32) o21.1.toInt64 o21.2).bind fun o24 =>
  (fMX12_put_0 nb (((1024 : Int32) * o6.1) + (20 : Int32)) (4 : Int32) (1 : Int64) o24).bind fun o27 =>
  (fMX12_put_0 nb (((1024 : Int32) * o6.1) + (32 : Int32)) (4 : Int32) ((o27.1 4).toInt64) o27).bind fun o30 =>
  (fMX12_put_0 nb (((1024 : Int32) * o6.1) + (36 : Int32)) (4 : Int32) ((o30.1 4).toInt64) o30).bind fun o33 =>
  (fMX12_put_0 nb (((1024 : Int32) * o6.1) + (40 : Int32)) (4 : Int32) ((o33.1 5).toInt64) o33).bind fun o36 =>
  (fMX12_put_0 nb (((1024 : Int32) * o6.1) + (54 : Int32)) (2 : Int32) (65535 : Int64) o36).bind fun o39 =>
  (fMX12_put_0 nb (((1024 : Int32) * o6.1) + (56 : Int32)) (2 : Int32) (61267 : Int64) o39).bind fun o42 =>
  (fMX12_put_0 nb (((1024 : Int32) * o6.1) + (58 : Int32)) (2 : Int32) (1 : Int64) o42).bind fun o45 =>
  (fMX12_put_0 nb (((1024 : Int32) * o6.1) + (60 : Int32)) (2 : Int32) (1 : Int64) o45).bind fun o48 =>
  (fMX12_put_0 nb (((1024 : Int32) * o6.1) + (76 : Int32)) (4 : Int32) (1 : Int64) o48).bind fun o51 =>
  (fMX12_put_0 nb (((1024 : Int32) * o6.1) + (84 : Int32)) (4 : Int32) (11 : Int64) o51).bind fun o54 =>
  (fMX12_put_0 nb (((1024 : Int32) * o6.1) + (88 : Int32)) (2 : Int32) (128 : Int64) o54).bind fun o57 =>
  (fMX12_put_0 nb (((1024 : Int32) * o6.1) + (90 : Int32)) (2 : Int32) x1.toInt64 o57).bind fun o60 =>
  (fMX12_put_0 nb (((1024 : Int32) * o6.1) + (96 : Int32)) (4 : Int32) (2 : Int64) o60).bind fun o63 =>
  (fMX12_put_0 nb (((1024 : Int32) * o6.1) + (104 : Int32)) (4 : Int32) ((o63.1 8).toInt64) o63).bind fun o66 =>
  some o66
else
  (fMX12_begin_0 nb x6 σ).bind fun o69 =>
  (fMX12_begin_0 nb x1 o69.2).bind fun o72 =>
  (fMX12_put_0 nb (((1024 : Int32) * (o69.1 + (1 : Int32))) + ((32 : Int32) * x1)) (4 : Int32) ((o72.1 + (2 : Int32)).toInt64) o72.2).bind fun o75 =>
  (fMX12_begin_0 nb x1 o75).bind fun o78 =>
  (fMX12_put_0 nb ((((1024 : Int32) * (o69.1 + (1 : Int32))) + ((32 : Int32) * x1)) + (4 : Int32)) (4 : Int32) ((o78.1 + (3 : Int32)).toInt64) o78.2).bind fun o81 =>
  (fMX12_begin_0 nb x1 o81).bind fun o84 =>
  (fMX12_put_0 nb ((((1024 : Int32) * (o69.1 + (1 : Int32))) + ((32 : Int32) * x1)) + (8 : Int32)) (4 : Int32) ((o84.1 + (4 : Int32)).toInt64) o84.2).bind fun o87 =>
  (fMX12_put_0 nb ((((1024 : Int32) * (o69.1 + (1 : Int32))) + ((32 : Int32) * x1)) + (12 : Int32)) (2 : Int32) x3.toInt64 o87).bind fun o90 =>
  (fMX12_put_0 nb ((((1024 : Int32) * (o69.1 + (1 : Int32))) + ((32 : Int32) * x1)) + (14 : Int32)) (2 : Int32) x4.toInt64 o90).bind fun o93 =>
  (fMX12_put_0 nb ((((1024 : Int32) * (o69.1 + (1 : Int32))) + ((32 : Int32) * x1)) + (16 : Int32)) (2 : Int32) x5.toInt64 o93).bind fun o96 =>
  k221 (x1, x3, x4, x5, (x6 + (1 : Int32)), o96)
def fMX12_showGroup_0_209 (nb : Nat) (k23 : (Int32 × Int32 × Int32 × Int32 × Int32 × Int32 × XS) → Option XS) (x1 : Int32) (x2 : Int32) (x3 : Int32) (x4 : Int32) (x6 : Int32) (y0 : Int32) (y1 : Int32) (σ : XS) : Option XS :=
k23 (x1, x2, x3, x4, (y1 + y0), (x6 + (1 : Int32)), σ)
def fMX12_showGroup_0_208 (nb : Nat) (k23 : (Int32 × Int32 × Int32 × Int32 × Int32 × Int32 × XS) → Option XS) (x1 : Int32) (x2 : Int32) (x3 : Int32) (x4 : Int32) (x6 : Int32) (y0 : Int32) (σ : XS) : Option XS :=
fMX12_showGroup_0_209 nb k23 x1 x2 x3 x4 x6 (0 : Int32) y0 σ
def fMX12_showGroup_0_173 (nb : Nat) (k23 : (Int32 × Int32 × Int32 × Int32 × Int32 × Int32 × XS) → Option XS) (x1 : Int32) (x2 : Int32) (x3 : Int32) (x4 : Int32) (x5 : Int32) (x6 : Int32) (σ : XS) : Option XS :=
if (σ.1 5) ≤ x6 then
  fMX12_showGroup_0_208 nb k23 x1 x2 x3 x4 x6 x5 σ
else
  if (((x1 * (σ.1 5)) + x6) + (1 : Int32)) < 0 ∨ 2100 ≤ (((x1 * (σ.1 5)) + x6) + (1 : Int32)).toNatClampNeg then none else
  if (σ.2.1 6 (((x1 * (σ.1 5)) + x6) + (1 : Int32)).toNatClampNeg) = (2 : Int32) then
    fMX12_showGroup_0_209 nb k23 x1 x2 x3 x4 x6 (1 : Int32) x5 σ
  else
    fMX12_showGroup_0_208 nb k23 x1 x2 x3 x4 x6 x5 σ
def fMX12_showGroup_0_134 (nb : Nat) (k23 : (Int32 × Int32 × Int32 × Int32 × Int32 × Int32 × XS) → Option XS) (x1 : Int32) (x2 : Int32) (x3 : Int32) (x4 : Int32) (x5 : Int32) (x6 : Int32) (x8 : Int32) (σ : XS) : Option XS :=
if x8 = 0 then
  fMX12_showGroup_0_173 nb k23 x1 x2 x3 (x4 + (1 : Int32)) x5 x6 σ
else
  if ((x2 + (1024 : Int32)) + (x6 / (8 : Int32))) < 0 ∨ 524288 ≤ ((x2 + (1024 : Int32)) + (x6 / (8 : Int32))).toNatClampNeg then none else
  if ((x2 + (1024 : Int32)) + (x6 / (8 : Int32))) < 0 ∨ 524288 ≤ ((x2 + (1024 : Int32)) + (x6 / (8 : Int32))).toNatClampNeg then none else
  fMX12_showGroup_0_173 nb k23 x1 x2 x3 x4 x5 x6 (stA σ 1 ((x2 + (1024 : Int32)) + (x6 / (8 : Int32))).toNatClampNeg (vp_nar .byte (((σ.2.1 1 ((x2 + (1024 : Int32)) + (x6 / (8 : Int32))).toNatClampNeg) ||| ((1 : Int32) <<< ((x6 - x6 / (8 : Int32) * (8 : Int32)) &&& 31)).toInt8.toInt32).toInt8.toInt32)))
def fMX12_showGroup_0_97 (nb : Nat) (k23 : (Int32 × Int32 × Int32 × Int32 × Int32 × Int32 × XS) → Option XS) (x1 : Int32) (x2 : Int32) (x3 : Int32) (x4 : Int32) (x5 : Int32) (x6 : Int32) (x7 : Int32) (y0 : Int32) (σ : XS) : Option XS :=
if x7 = 0 then
  fMX12_showGroup_0_134 nb k23 x1 x2 (x3 + (1 : Int32)) x4 x5 x6 y0 σ
else
  if (x2 + (x6 / (8 : Int32))) < 0 ∨ 524288 ≤ (x2 + (x6 / (8 : Int32))).toNatClampNeg then none else
  if (x2 + (x6 / (8 : Int32))) < 0 ∨ 524288 ≤ (x2 + (x6 / (8 : Int32))).toNatClampNeg then none else
  fMX12_showGroup_0_134 nb k23 x1 x2 x3 x4 x5 x6 y0 (stA σ 1 (x2 + (x6 / (8 : Int32))).toNatClampNeg (vp_nar .byte (((σ.2.1 1 (x2 + (x6 / (8 : Int32))).toNatClampNeg) ||| ((1 : Int32) <<< ((x6 - x6 / (8 : Int32) * (8 : Int32)) &&& 31)).toInt8.toInt32).toInt8.toInt32)))
def fMX12_showGroup_0_92 (nb : Nat) (k23 : (Int32 × Int32 × Int32 × Int32 × Int32 × Int32 × XS) → Option XS) (x1 : Int32) (x2 : Int32) (x3 : Int32) (x4 : Int32) (x5 : Int32) (x6 : Int32) (x7 : Int32) (σ : XS) : Option XS :=
fMX12_showGroup_0_97 nb k23 x1 x2 x3 x4 x5 x6 x7 (1 : Int32) σ
def fMX12_showGroup_0_62 (nb : Nat) (k23 : (Int32 × Int32 × Int32 × Int32 × Int32 × Int32 × XS) → Option XS) (x1 : Int32) (x2 : Int32) (x3 : Int32) (x4 : Int32) (x5 : Int32) (x6 : Int32) (y0 : Int32) (σ : XS) : Option XS :=
if (σ.1 5) ≤ x6 then
  fMX12_showGroup_0_92 nb k23 x1 x2 x3 x4 x5 x6 y0 σ
else
  if (((x1 * (σ.1 5)) + x6) + (1 : Int32)) < 0 ∨ 2100 ≤ (((x1 * (σ.1 5)) + x6) + (1 : Int32)).toNatClampNeg then none else
  if (σ.2.1 6 (((x1 * (σ.1 5)) + x6) + (1 : Int32)).toNatClampNeg) = 0 then
    fMX12_showGroup_0_97 nb k23 x1 x2 x3 x4 x5 x6 y0 (0 : Int32) σ
  else
    fMX12_showGroup_0_92 nb k23 x1 x2 x3 x4 x5 x6 y0 σ
def fMX12_showGroup_0_57 (nb : Nat) (k23 : (Int32 × Int32 × Int32 × Int32 × Int32 × Int32 × XS) → Option XS) (x1 : Int32) (x2 : Int32) (x3 : Int32) (x4 : Int32) (x5 : Int32) (x6 : Int32) (σ : XS) : Option XS :=
fMX12_showGroup_0_62 nb k23 x1 x2 x3 x4 x5 x6 (1 : Int32) σ
def fMX12_showGroup_0_23 (nb : Nat) (k23 : (Int32 × Int32 × Int32 × Int32 × Int32 × Int32 × XS) → Option XS) (x1 : Int32) (x2 : Int32) (x3 : Int32) (x4 : Int32) (x5 : Int32) (x6 : Int32) (σ : XS) : Option XS :=
if (8192 : Int32) ≤ x6 then
  lfix (fun k221 t => fMX12_showGroup_0_221 nb k221 t.1 t.2.1 t.2.2.1 t.2.2.2.1 t.2.2.2.2.1 t.2.2.2.2.2) FU (x1, x3, x4, x5, (0 : Int32), σ)
else
  (fMX12_room_0 nb x1 σ).bind fun o99 =>
  if o99.1 ≤ x6 then
    fMX12_showGroup_0_57 nb k23 x1 x2 x3 x4 x5 x6 o99.2
  else
    (fMX12_begin_0 nb x1 o99.2).bind fun o115 =>
    if (o115.1 + x6) < 0 ∨ 512 ≤ (o115.1 + x6).toNatClampNeg then none else
    if (o115.2.2.1 4 (o115.1 + x6).toNatClampNeg) = 0 then
      fMX12_showGroup_0_62 nb k23 x1 x2 x3 x4 x5 x6 (0 : Int32) o115.2
    else
      fMX12_showGroup_0_57 nb k23 x1 x2 x3 x4 x5 x6 o115.2
def fMX12_showGroup_0_0 (nb : Nat) (x1 : Int32) (σ : XS) : Option XS :=
(fMX12_begin_0 nb x1 σ).bind fun o1 =>
lfix (fun k23 t => fMX12_showGroup_0_23 nb k23 t.1 t.2.1 t.2.2.1 t.2.2.2.1 t.2.2.2.2.1 t.2.2.2.2.2.1 t.2.2.2.2.2.2) FU (x1, ((1024 : Int32) * (o1.1 + (2 : Int32))), (0 : Int32), (0 : Int32), (0 : Int32), (0 : Int32), o1.2)
def fMX12_showGroup_0 (nb : Nat) (x1 : Int32) (σ : XS) : Option XS := fMX12_showGroup_0_0 nb x1 σ
def fMX12_show_0_101 (nb : Nat) (k63 : (Int32 × XS) → Option XS) (x1 : Int32) (σ : XS) : Option XS :=
k63 ((x1 + (1 : Int32)), σ)
def fMX12_show_0_96 (nb : Nat) (k63 : (Int32 × XS) → Option XS) (x1 : Int32) (σ : XS) : Option XS :=
(fMX12_showInode_0 nb x1 σ).bind fun o7 =>
fMX12_show_0_101 nb k63 x1 o7
def fMX12_show_0_63 (nb : Nat) (k63 : (Int32 × XS) → Option XS) (x1 : Int32) (σ : XS) : Option XS :=
if ((σ.1 7) * (σ.1 5)) < x1 then
  some σ
else
  if x1 < 0 ∨ 2100 ≤ x1.toNatClampNeg then none else
  if (σ.2.1 6 x1.toNatClampNeg) = (1 : Int32) then
    fMX12_show_0_96 nb k63 x1 σ
  else
    if x1 < 0 ∨ 2100 ≤ x1.toNatClampNeg then none else
    if (σ.2.1 6 x1.toNatClampNeg) = (2 : Int32) then
      fMX12_show_0_96 nb k63 x1 σ
    else
      fMX12_show_0_101 nb k63 x1 σ
def fMX12_show_0_42 (nb : Nat) (k42 : (Int32 × XS) → Option XS) (x1 : Int32) (σ : XS) : Option XS :=
if (σ.1 7) ≤ x1 then
  lfix (fun k63 t => fMX12_show_0_63 nb k63 t.1 t.2) FU ((1 : Int32), σ)
else
  (fMX12_showGroup_0 nb x1 σ).bind fun o12 =>
  k42 ((x1 + (1 : Int32)), o12)
def fMX12_show_0_15 (nb : Nat) (k15 : (Int32 × XS) → Option XS) (x1 : Int32) (σ : XS) : Option XS :=
if ((1024 : Int32) * (Int32.ofNat nb)) ≤ x1 then
  lfix (fun k42 t => fMX12_show_0_42 nb k42 t.1 t.2) FU ((0 : Int32), σ)
else
  if x1 < 0 ∨ 524288 ≤ x1.toNatClampNeg then none else
  k15 ((x1 + (1 : Int32)), (stA σ 1 x1.toNatClampNeg (vp_nar .byte (0 : Int32))))
def fMX12_show_0_0 (nb : Nat) (σ : XS) : Option XS :=
if (σ.1 3) = 0 then
  lfix (fun k15 t => fMX12_show_0_15 nb k15 t.1 t.2) FU ((0 : Int32), (stS σ 3 (1 : Int32)))
else
  some σ
def fMX12_show_0 (nb : Nat) (σ : XS) : Option XS := fMX12_show_0_0 nb σ
def fMX12_byteAt_0_54 (nb : Nat) (x1 : Int32) (σ : XS) : Option (Int32 × XS) :=
(fMX12_show_0 nb σ).bind fun o5 =>
if x1 < 0 ∨ 524288 ≤ x1.toNatClampNeg then none else
some (((o5.2.1 1 x1.toNatClampNeg) &&& (255 : Int32)), o5)
def fMX12_byteAt_0_0 (nb : Nat) (x1 : Int32) (σ : XS) : Option (Int32 × XS) :=
if x1 < 0 then
  some ((-1 : Int32), (stS σ 0 (0 : Int32)))
else
  if x1 < ((1024 : Int32) * (Int32.ofNat nb)) then
    if (σ.1 2) = 0 then
      some ((0 : Int32), (stS σ 0 (0 : Int32)))
    else
      if x1 < (1024 : Int32) then
        fMX12_byteAt_0_54 nb x1 (stS σ 0 (0 : Int32))
      else
        if (x1 / (1024 : Int32)) < 0 ∨ 512 ≤ (x1 / (1024 : Int32)).toNatClampNeg then none else
        if ((stS σ 0 (0 : Int32)).2.1 4 (x1 / (1024 : Int32)).toNatClampNeg) = 0 then
          some ((-1 : Int32), (stS σ 0 (0 : Int32)))
        else
          fMX12_byteAt_0_54 nb x1 (stS σ 0 (0 : Int32))
  else
    some ((-1 : Int32), (stS σ 0 (0 : Int32)))
def fMX12_byteAt_0 (nb : Nat) (x1 : Int32) (σ : XS) : Option (Int32 × XS) := fMX12_byteAt_0_0 nb x1 σ
def fMX12_fault_0_0 (nb : Nat) (σ : XS) : Option (Int32 × XS) :=
if (σ.1 2) = 0 then
  some ((-1 : Int32), (stS σ 0 (0 : Int32)))
else
  some ((0 : Int32), (stS σ 0 (0 : Int32)))
def fMX12_fault_0 (nb : Nat) (σ : XS) : Option (Int32 × XS) := fMX12_fault_0_0 nb σ
def fMX12_many_0_0 (nb : Nat) (x1 : Int32) (σ : XS) : Option (Int32 × XS) :=
if (σ.1 2) = 0 then
  some ((-1 : Int32), (stS σ 0 (0 : Int32)))
else
  if x1 = 0 then
    (fMX12_freeBlocks_0 nb (stS σ 0 (0 : Int32))).bind fun o9 =>
    some (o9.1, o9.2)
  else
    if x1 = (1 : Int32) then
      (fMX12_freeInodes_0 nb (stS σ 0 (0 : Int32))).bind fun o6 =>
      some (o6.1, o6.2)
    else
      if x1 = (2 : Int32) then
        some ((σ.1 7), (stS σ 0 (0 : Int32)))
      else
        if x1 = (3 : Int32) then
          some ((σ.1 5), (stS σ 0 (0 : Int32)))
        else
          some ((-1 : Int32), (stS σ 0 (0 : Int32)))
def fMX12_many_0 (nb : Nat) (x1 : Int32) (σ : XS) : Option (Int32 × XS) := fMX12_many_0_0 nb x1 σ
def fMX12_uses_0_0 (nb : Nat) (x1 : Int32) (σ : XS) : Option (Int32 × XS) :=
(fMX12_four_0 nb x1 σ).bind fun o1 =>
if o1.1 = 0 then
  some ((0 : Int32), o1.2)
else
  (fMX12_one_0 nb (x1 + (6 : Int32)) o1.2).bind fun o5 =>
  (fMX12_parts nb o5.1 (4 : Int32) o5.2).bind fun o8 =>
  some (((8 : Int32) + (o8.1 * (4 : Int32))), o8.2)
def fMX12_uses_0 (nb : Nat) (x1 : Int32) (σ : XS) : Option (Int32 × XS) := fMX12_uses_0_0 nb x1 σ
def fMX12_finds_0_117 (nb : Nat) (k15 : (Int32 × Int32 × Int32 × Int32 × XS) → Option (Int32 × XS)) (k38 : (Int32 × Int32 × Int32 × Int32 × Int32 × XS) → Option (Int32 × XS)) (x1 : Int32) (x2 : Int32) (x3 : Int32) (x4 : Int32) (x5 : Int32) (σ : XS) : Option (Int32 × XS) :=
(fMX12_two_0 nb (x5 + (4 : Int32)) (stS σ 11 x5)).bind fun o8 =>
k38 (x1, x2, x3, x4, (x5 + o8.1), o8.2)
def fMX12_finds_0_75 (nb : Nat) (k15 : (Int32 × Int32 × Int32 × Int32 × XS) → Option (Int32 × XS)) (k38 : (Int32 × Int32 × Int32 × Int32 × Int32 × XS) → Option (Int32 × XS)) (x1 : Int32) (x2 : Int32) (x3 : Int32) (x4 : Int32) (x5 : Int32) (y0 : Int32) (σ : XS) : Option (Int32 × XS) :=
if y0 = 0 then
  (fMX12_four_0 nb x5 σ).bind fun o11 =>
  if o11.1 = 0 then
    fMX12_finds_0_117 nb k15 k38 x1 x2 x3 x4 x5 o11.2
  else
    if (o11.2.1 13) = x2 then
      some ((1 : Int32), (stS o11.2 10 x5))
    else
      fMX12_finds_0_117 nb k15 k38 x1 x2 x3 x4 x5 (stS (stS o11.2 10 x5) 13 ((o11.2.1 13) + (1 : Int32)))
else
  fMX12_finds_0_117 nb k15 k38 x1 x2 x3 x4 x5 σ
def fMX12_finds_0_74 (nb : Nat) (k15 : (Int32 × Int32 × Int32 × Int32 × XS) → Option (Int32 × XS)) (k38 : (Int32 × Int32 × Int32 × Int32 × Int32 × XS) → Option (Int32 × XS)) (x1 : Int32) (x2 : Int32) (x3 : Int32) (x4 : Int32) (x5 : Int32) (σ : XS) : Option (Int32 × XS) :=
fMX12_finds_0_75 nb k15 k38 x1 x2 x3 x4 x5 (0 : Int32) σ
def fMX12_finds_0_38 (nb : Nat) (k15 : (Int32 × Int32 × Int32 × Int32 × XS) → Option (Int32 × XS)) (k38 : (Int32 × Int32 × Int32 × Int32 × Int32 × XS) → Option (Int32 × XS)) (x1 : Int32) (x2 : Int32) (x3 : Int32) (x4 : Int32) (x5 : Int32) (σ : XS) : Option (Int32 × XS) :=
if (((1024 : Int32) * x3) + (1024 : Int32)) ≤ x5 then
  if x3 < 0 ∨ 512 ≤ x3.toNatClampNeg then none else
  k15 (x1, x2, (σ.2.1 5 x3.toNatClampNeg), (x4 + (1 : Int32)), σ)
else
  if x4 = 0 then
    if (((1024 : Int32) * x3) + (24 : Int32)) ≤ x5 then
      fMX12_finds_0_74 nb k15 k38 x1 x2 x3 x4 x5 σ
    else
      fMX12_finds_0_75 nb k15 k38 x1 x2 x3 x4 x5 (1 : Int32) σ
  else
    fMX12_finds_0_74 nb k15 k38 x1 x2 x3 x4 x5 σ
def fMX12_finds_0_15 (nb : Nat) (k15 : (Int32 × Int32 × Int32 × Int32 × XS) → Option (Int32 × XS)) (x1 : Int32) (x2 : Int32) (x3 : Int32) (x4 : Int32) (σ : XS) : Option (Int32 × XS) :=
if x1 < 0 ∨ 2100 ≤ x1.toNatClampNeg then none else
if (σ.2.1 9 x1.toNatClampNeg) ≤ x4 then
  some ((0 : Int32), σ)
else
  lfix (fun k38 t => fMX12_finds_0_38 nb k15 k38 t.1 t.2.1 t.2.2.1 t.2.2.2.1 t.2.2.2.2.1 t.2.2.2.2.2) FU (x1, x2, x3, x4, ((1024 : Int32) * x3), (stS σ 11 (-1 : Int32)))
def fMX12_finds_0_0 (nb : Nat) (x1 : Int32) (x2 : Int32) (σ : XS) : Option (Int32 × XS) :=
if x1 < 0 ∨ 2100 ≤ x1.toNatClampNeg then none else
lfix (fun k15 t => fMX12_finds_0_15 nb k15 t.1 t.2.1 t.2.2.1 t.2.2.2.1 t.2.2.2.2) FU (x1, x2, ((stS σ 13 (0 : Int32)).2.1 10 x1.toNatClampNeg), (0 : Int32), (stS σ 13 (0 : Int32)))
def fMX12_finds_0 (nb : Nat) (x1 : Int32) (x2 : Int32) (σ : XS) : Option (Int32 × XS) := fMX12_finds_0_0 nb x1 x2 σ
def fMX12_count_0_0 (nb : Nat) (x1 : Int32) (σ : XS) : Option (Int32 × XS) :=
(fMX12_finds_0 nb x1 (-1 : Int32) σ).bind fun o1 =>
if o1.1 = 0 then
  some ((o1.2.1 13), o1.2)
else
  some ((0 : Int32), o1.2)
def fMX12_count_0 (nb : Nat) (x1 : Int32) (σ : XS) : Option (Int32 × XS) := fMX12_count_0_0 nb x1 σ
def fMX12_none_0_18 (nb : Nat) (y0 : Int32) (σ : XS) : Option (Int32 × XS) :=
(fMX12_fails_0 nb y0 (1 : Int32) σ).bind fun o2 =>
some (o2.1, o2.2)
def fMX12_none_0_0 (nb : Nat) (σ : XS) : Option (Int32 × XS) :=
if (σ.1 2) = 0 then
  fMX12_none_0_18 nb (1 : Int32) (stS σ 0 (0 : Int32))
else
  fMX12_none_0_18 nb (0 : Int32) (stS σ 0 (0 : Int32))
def fMX12_none_0 (nb : Nat) (σ : XS) : Option (Int32 × XS) := fMX12_none_0_0 nb σ
def fMX12_no_0_36 (nb : Nat) (σ : XS) : Option (Int32 × XS) :=
some ((1 : Int32), σ)
def fMX12_no_0_29 (nb : Nat) (y0 : Int32) (σ : XS) : Option (Int32 × XS) :=
(fMX12_fails_0 nb y0 (2 : Int32) σ).bind fun o6 =>
if o6.1 = 0 then
  some ((0 : Int32), o6.2)
else
  fMX12_no_0_36 nb o6.2
def fMX12_no_0_24 (nb : Nat) (σ : XS) : Option (Int32 × XS) :=
fMX12_no_0_29 nb (1 : Int32) σ
def fMX12_no_0_0 (nb : Nat) (x1 : Int32) (σ : XS) : Option (Int32 × XS) :=
(fMX12_none_0 nb σ).bind fun o1 =>
if o1.1 = 0 then
  if x1 < 0 then
    fMX12_no_0_24 nb o1.2
  else
    (fMX12_finds_0 nb (o1.2.1 9) x1 o1.2).bind fun o10 =>
    if o10.1 = 0 then
      fMX12_no_0_24 nb o10.2
    else
      fMX12_no_0_29 nb (0 : Int32) o10.2
else
  fMX12_no_0_36 nb o1.2
def fMX12_no_0 (nb : Nat) (x1 : Int32) (σ : XS) : Option (Int32 × XS) := fMX12_no_0_0 nb x1 σ
def fMX12_items_0_0 (nb : Nat) (σ : XS) : Option (Int32 × XS) :=
(fMX12_none_0 nb σ).bind fun o1 =>
if o1.1 = 0 then
  (fMX12_count_0 nb (o1.2.1 9) o1.2).bind fun o5 =>
  some (o5.1, o5.2)
else
  some ((0 : Int32), o1.2)
def fMX12_items_0 (nb : Nat) (σ : XS) : Option (Int32 × XS) := fMX12_items_0_0 nb σ
def fMX12_letter_0_29 (nb : Nat) (σ : XS) : Option (Int32 × XS) :=
some ((-1 : Int32), σ)
def fMX12_letter_0_0 (nb : Nat) (x1 : Int32) (x2 : Int32) (σ : XS) : Option (Int32 × XS) :=
(fMX12_no_0 nb x1 σ).bind fun o1 =>
if o1.1 = 0 then
  if x2 < 0 then
    fMX12_letter_0_29 nb o1.2
  else
    (fMX12_one_0 nb ((o1.2.1 10) + (6 : Int32)) o1.2).bind fun o6 =>
    if x2 < o6.1 then
      (fMX12_one_0 nb (((o6.2.1 10) + (8 : Int32)) + x2) o6.2).bind fun o10 =>
      some (o10.1, o10.2)
    else
      fMX12_letter_0_29 nb o6.2
else
  some ((0 : Int32), o1.2)
def fMX12_letter_0 (nb : Nat) (x1 : Int32) (x2 : Int32) (σ : XS) : Option (Int32 × XS) := fMX12_letter_0_0 nb x1 x2 σ
def fMX12_about_0_24 (nb : Nat) (x2 : Int32) (y0 : Int32) (σ : XS) : Option (Int64 × XS) :=
(fMX12_fails_0 nb y0 (3 : Int32) σ).bind fun o6 =>
if o6.1 = 0 then
  (fMX12_four_0 nb (o6.2.1 10) o6.2).bind fun o10 =>
  if x2 = (0 : Int32) then
    some (o10.1.toInt64, o10.2)
  else if x2 = (1 : Int32) then
    if o10.1 < 0 ∨ 2100 ≤ o10.1.toNatClampNeg then none else
    if (o10.2.2.1 6 o10.1.toNatClampNeg) = (2 : Int32) then
      some ((1 : Int64), o10.2)
    else
      some ((0 : Int64), o10.2)
  else if x2 = (2 : Int32) then
    if o10.1 < 0 ∨ 2100 ≤ o10.1.toNatClampNeg then none else
    some ((o10.2.2.1 7 o10.1.toNatClampNeg).toInt64, o10.2)
  else if x2 = (3 : Int32) then
    if o10.1 < 0 ∨ 2100 ≤ o10.1.toNatClampNeg then none else
    some ((o10.2.2.1 8 o10.1.toNatClampNeg).toInt64, o10.2)
  else 
    if ((((3 : Int32) * o10.1) + x2) - (4 : Int32)) < 0 ∨ 6300 ≤ ((((3 : Int32) * o10.1) + x2) - (4 : Int32)).toNatClampNeg then none else
    some ((o10.2.2.2 0 ((((3 : Int32) * o10.1) + x2) - (4 : Int32)).toNatClampNeg), o10.2)
else
  some ((0 : Int64), o6.2)
def fMX12_about_0_19 (nb : Nat) (x2 : Int32) (σ : XS) : Option (Int64 × XS) :=
fMX12_about_0_24 nb x2 (1 : Int32) σ
def fMX12_about_0_0 (nb : Nat) (x1 : Int32) (x2 : Int32) (σ : XS) : Option (Int64 × XS) :=
(fMX12_no_0 nb x1 σ).bind fun o1 =>
if o1.1 = 0 then
  if x2 < 0 then
    fMX12_about_0_19 nb x2 o1.2
  else
    if x2 ≤ (6 : Int32) then
      fMX12_about_0_24 nb x2 (0 : Int32) o1.2
    else
      fMX12_about_0_19 nb x2 o1.2
else
  some ((0 : Int64), o1.2)
def fMX12_about_0 (nb : Nat) (x1 : Int32) (x2 : Int32) (σ : XS) : Option (Int64 × XS) := fMX12_about_0_0 nb x1 x2 σ
def fMX12_content_0_43 (nb : Nat) (σ : XS) : Option (Int32 × XS) :=
some ((-1 : Int32), σ)
def fMX12_content_0_0 (nb : Nat) (x1 : Int32) (x2 : Int32) (σ : XS) : Option (Int32 × XS) :=
(fMX12_no_0 nb x1 σ).bind fun o1 =>
if o1.1 = 0 then
  (fMX12_four_0 nb (o1.2.1 10) o1.2).bind fun o5 =>
  if o5.1 < 0 ∨ 2100 ≤ o5.1.toNatClampNeg then none else
  if (o5.2.2.1 6 o5.1.toNatClampNeg) = (2 : Int32) then
    fMX12_content_0_43 nb o5.2
  else
    if x2 < 0 then
      fMX12_content_0_43 nb o5.2
    else
      if o5.1 < 0 ∨ 2100 ≤ o5.1.toNatClampNeg then none else
      if x2 < (o5.2.2.1 7 o5.1.toNatClampNeg) then
        (fMX12_blockOf_0 nb o5.1 (x2 / (1024 : Int32)) o5.2).bind fun o13 =>
        (fMX12_one_0 nb (((1024 : Int32) * o13.1) + (x2 - x2 / (1024 : Int32) * (1024 : Int32))) o13.2).bind fun o16 =>
        some (o16.1, o16.2)
      else
        fMX12_content_0_43 nb o5.2
else
  some ((0 : Int32), o1.2)
def fMX12_content_0 (nb : Nat) (x1 : Int32) (x2 : Int32) (σ : XS) : Option (Int32 × XS) := fMX12_content_0_0 nb x1 x2 σ
def fMX12_enter_0_31 (nb : Nat) (y0 : Int32) (σ : XS) : Option (Int32 × XS) :=
(fMX12_fails_0 nb y0 (3 : Int32) σ).bind fun o10 =>
if o10.1 = 0 then
  (fMX12_four_0 nb (o10.2.1 10) o10.2).bind fun o14 =>
  (fMX12_count_0 nb o14.1 (stS o14.2 9 o14.1)).bind fun o17 =>
  some (o17.1, o17.2)
else
  some ((0 : Int32), o10.2)
def fMX12_enter_0_0 (nb : Nat) (x1 : Int32) (σ : XS) : Option (Int32 × XS) :=
(fMX12_no_0 nb x1 σ).bind fun o1 =>
if o1.1 = 0 then
  (fMX12_four_0 nb (o1.2.1 10) o1.2).bind fun o5 =>
  if o5.1 < 0 ∨ 2100 ≤ o5.1.toNatClampNeg then none else
  if (o5.2.2.1 6 o5.1.toNatClampNeg) = (2 : Int32) then
    fMX12_enter_0_31 nb (0 : Int32) o5.2
  else
    fMX12_enter_0_31 nb (1 : Int32) o5.2
else
  some ((0 : Int32), o1.2)
def fMX12_enter_0 (nb : Nat) (x1 : Int32) (σ : XS) : Option (Int32 × XS) := fMX12_enter_0_0 nb x1 σ
def fMX12_up_0_0 (nb : Nat) (σ : XS) : Option (Int32 × XS) :=
(fMX12_none_0 nb σ).bind fun o1 =>
if o1.1 = 0 then
  if (o1.2.1 9) = (2 : Int32) then
    some ((0 : Int32), o1.2)
  else
    if (o1.2.1 9) < 0 ∨ 2100 ≤ (o1.2.1 9).toNatClampNeg then none else
    some ((1 : Int32), (stS o1.2 9 (o1.2.2.1 15 (o1.2.1 9).toNatClampNeg)))
else
  some ((0 : Int32), o1.2)
def fMX12_up_0 (nb : Nat) (σ : XS) : Option (Int32 × XS) := fMX12_up_0_0 nb σ
def fMX12_named_0_144 (nb : Nat) (σ : XS) : Option (Int32 × XS) :=
some ((1 : Int32), σ)
def fMX12_named_0_90 (nb : Nat) (k37 : (Int32 × Int32 × XS) → Option (Int32 × XS)) (x2 : Int32) (y0 : Int32) (σ : XS) : Option (Int32 × XS) :=
k37 (y0, (x2 + (1 : Int32)), σ)
def fMX12_named_0_89 (nb : Nat) (k37 : (Int32 × Int32 × XS) → Option (Int32 × XS)) (x2 : Int32) (σ : XS) : Option (Int32 × XS) :=
fMX12_named_0_90 nb k37 x2 (0 : Int32) σ
def fMX12_named_0_37 (nb : Nat) (k37 : (Int32 × Int32 × XS) → Option (Int32 × XS)) (x1 : Int32) (x2 : Int32) (σ : XS) : Option (Int32 × XS) :=
if (σ.1 12) ≤ x2 then
  if x1 = 0 then
    some ((0 : Int32), (stS σ 1 (0 : Int32)))
  else
    if (0 : Int32) < 0 ∨ 255 ≤ (0 : Int32).toNatClampNeg then none else
    if ((stS σ 1 (0 : Int32)).2.1 17 (0 : Int32).toNatClampNeg) = (46 : Int32) then
      if (σ.1 12) = (1 : Int32) then
        some ((0 : Int32), (stS σ 1 (0 : Int32)))
      else
        if (σ.1 12) = (2 : Int32) then
          if (1 : Int32) < 0 ∨ 255 ≤ (1 : Int32).toNatClampNeg then none else
          if ((stS σ 1 (0 : Int32)).2.1 17 (1 : Int32).toNatClampNeg) = (46 : Int32) then
            some ((0 : Int32), (stS σ 1 (0 : Int32)))
          else
            fMX12_named_0_144 nb (stS σ 1 (0 : Int32))
        else
          fMX12_named_0_144 nb (stS σ 1 (0 : Int32))
    else
      fMX12_named_0_144 nb (stS σ 1 (0 : Int32))
else
  if x2 < 0 ∨ 4096 ≤ x2.toNatClampNeg then none else
  if x2 < 0 ∨ 255 ≤ x2.toNatClampNeg then none else
  if x1 = 0 then
    fMX12_named_0_89 nb k37 x2 (stA σ 17 x2.toNatClampNeg ((σ.2.1 2 x2.toNatClampNeg) &&& (255 : Int32)))
  else
    if x2 < 0 ∨ 255 ≤ x2.toNatClampNeg then none else
    if ((stA σ 17 x2.toNatClampNeg ((σ.2.1 2 x2.toNatClampNeg) &&& (255 : Int32))).2.1 17 x2.toNatClampNeg) = 0 then
      fMX12_named_0_89 nb k37 x2 (stA σ 17 x2.toNatClampNeg ((σ.2.1 2 x2.toNatClampNeg) &&& (255 : Int32)))
    else
      if x2 < 0 ∨ 255 ≤ x2.toNatClampNeg then none else
      if ((stA σ 17 x2.toNatClampNeg ((σ.2.1 2 x2.toNatClampNeg) &&& (255 : Int32))).2.1 17 x2.toNatClampNeg) = (47 : Int32) then
        fMX12_named_0_89 nb k37 x2 (stA σ 17 x2.toNatClampNeg ((σ.2.1 2 x2.toNatClampNeg) &&& (255 : Int32)))
      else
        fMX12_named_0_90 nb k37 x2 (1 : Int32) (stA σ 17 x2.toNatClampNeg ((σ.2.1 2 x2.toNatClampNeg) &&& (255 : Int32)))
def fMX12_named_0_34 (nb : Nat) (y0 : Int32) (σ : XS) : Option (Int32 × XS) :=
lfix (fun k37 t => fMX12_named_0_37 nb k37 t.1 t.2.1 t.2.2) FU (y0, (0 : Int32), σ)
def fMX12_named_0_19 (nb : Nat) (y0 : Int32) (σ : XS) : Option (Int32 × XS) :=
if y0 ≤ 0 then
  fMX12_named_0_34 nb (0 : Int32) (stS σ 12 y0)
else
  fMX12_named_0_34 nb (1 : Int32) (stS σ 12 y0)
def fMX12_named_0_0 (nb : Nat) (σ : XS) : Option (Int32 × XS) :=
if (σ.1 1) ≤ (255 : Int32) then
  fMX12_named_0_19 nb (σ.1 1) σ
else
  fMX12_named_0_19 nb (0 : Int32) σ
def fMX12_named_0 (nb : Nat) (σ : XS) : Option (Int32 × XS) := fMX12_named_0_0 nb σ
def fMX12_isTaken_0_92 (nb : Nat) (k4 : (Int32 × Int32 × XS) → Option (Int32 × XS)) (x1 : Int32) (x2 : Int32) (σ : XS) : Option (Int32 × XS) :=
k4 (x1, (x2 + (1 : Int32)), σ)
def fMX12_isTaken_0_85 (nb : Nat) (k4 : (Int32 × Int32 × XS) → Option (Int32 × XS)) (k46 : (Int32 × Int32 × Int32 × XS) → Option (Int32 × XS)) (x2 : Int32) (x3 : Int32) (y0 : Int32) (σ : XS) : Option (Int32 × XS) :=
k46 (y0, x2, (x3 + (1 : Int32)), σ)
def fMX12_isTaken_0_46 (nb : Nat) (k4 : (Int32 × Int32 × XS) → Option (Int32 × XS)) (k46 : (Int32 × Int32 × Int32 × XS) → Option (Int32 × XS)) (x1 : Int32) (x2 : Int32) (x3 : Int32) (σ : XS) : Option (Int32 × XS) :=
if (σ.1 12) ≤ x3 then
  fMX12_isTaken_0_92 nb k4 x1 x2 σ
else
  if x1 = 0 then
    fMX12_isTaken_0_92 nb k4 x1 x2 σ
  else
    (fMX12_one_0 nb (((σ.1 10) + (8 : Int32)) + x3) σ).bind fun o14 =>
    if x3 < 0 ∨ 255 ≤ x3.toNatClampNeg then none else
    if o14.1 = (o14.2.2.1 17 x3.toNatClampNeg) then
      fMX12_isTaken_0_85 nb k4 k46 x2 x3 (1 : Int32) o14.2
    else
      fMX12_isTaken_0_85 nb k4 k46 x2 x3 (0 : Int32) o14.2
def fMX12_isTaken_0_43 (nb : Nat) (k4 : (Int32 × Int32 × XS) → Option (Int32 × XS)) (x2 : Int32) (y0 : Int32) (σ : XS) : Option (Int32 × XS) :=
lfix (fun k46 t => fMX12_isTaken_0_46 nb k4 k46 t.1 t.2.1 t.2.2.1 t.2.2.2) FU (y0, x2, (0 : Int32), σ)
def fMX12_isTaken_0_4 (nb : Nat) (k4 : (Int32 × Int32 × XS) → Option (Int32 × XS)) (x1 : Int32) (x2 : Int32) (σ : XS) : Option (Int32 × XS) :=
if x1 = 0 then
  (fMX12_finds_0 nb (σ.1 9) x2 σ).bind fun o3 =>
  if o3.1 = 0 then
    if x1 = 0 ∨ x1 = 1 then some (x1, o3.2) else none
  else
    (fMX12_one_0 nb ((o3.2.1 10) + (6 : Int32)) o3.2).bind fun o8 =>
    if o8.1 = (o8.2.1 12) then
      fMX12_isTaken_0_43 nb k4 x2 (1 : Int32) o8.2
    else
      fMX12_isTaken_0_43 nb k4 x2 (0 : Int32) o8.2
else
  if x1 = 0 ∨ x1 = 1 then some (x1, σ) else none
def fMX12_isTaken_0_0 (nb : Nat) (σ : XS) : Option (Int32 × XS) :=
lfix (fun k4 t => fMX12_isTaken_0_4 nb k4 t.1 t.2.1 t.2.2) FU ((0 : Int32), (0 : Int32), σ)
def fMX12_isTaken_0 (nb : Nat) (σ : XS) : Option (Int32 × XS) := fMX12_isTaken_0_0 nb σ
def fMX12_spot_0_46 (nb : Nat) (k26 : (Int32 × Int32 × Int32 × XS) → Option (Int32 × XS)) (k46 : (Int32 × Int32 × Int32 × Int32 × XS) → Option (Int32 × XS)) (x1 : Int32) (x2 : Int32) (x3 : Int32) (x4 : Int32) (σ : XS) : Option (Int32 × XS) :=
if (((1024 : Int32) * x2) + (1024 : Int32)) ≤ x4 then
  if x2 < 0 ∨ 512 ≤ x2.toNatClampNeg then none else
  k26 (x1, (σ.2.1 5 x2.toNatClampNeg), (x3 + (1 : Int32)), σ)
else
  (fMX12_two_0 nb (x4 + (4 : Int32)) (stS σ 10 x4)).bind fun o9 =>
  (fMX12_uses_0 nb x4 o9.2).bind fun o12 =>
  if (o9.1 - o12.1) < x1 then
    (fMX12_two_0 nb (x4 + (4 : Int32)) o12.2).bind fun o16 =>
    k46 (x1, x2, x3, (x4 + o16.1), o16.2)
  else
    (fMX12_uses_0 nb x4 o12.2).bind fun o19 =>
    if o19.1 = 0 then
      some ((2 : Int32), o19.2)
    else
      some ((1 : Int32), o19.2)
def fMX12_spot_0_26 (nb : Nat) (k26 : (Int32 × Int32 × Int32 × XS) → Option (Int32 × XS)) (x1 : Int32) (x2 : Int32) (x3 : Int32) (σ : XS) : Option (Int32 × XS) :=
if (σ.1 9) < 0 ∨ 2100 ≤ (σ.1 9).toNatClampNeg then none else
if (σ.2.1 9 (σ.1 9).toNatClampNeg) ≤ x3 then
  some ((0 : Int32), σ)
else
  lfix (fun k46 t => fMX12_spot_0_46 nb k26 k46 t.1 t.2.1 t.2.2.1 t.2.2.2.1 t.2.2.2.2) FU (x1, x2, x3, ((1024 : Int32) * x2), σ)
def fMX12_spot_0_0 (nb : Nat) (σ : XS) : Option (Int32 × XS) :=
(fMX12_parts nb (σ.1 12) (4 : Int32) σ).bind fun o1 =>
if (o1.2.1 9) < 0 ∨ 2100 ≤ (o1.2.1 9).toNatClampNeg then none else
lfix (fun k26 t => fMX12_spot_0_26 nb k26 t.1 t.2.1 t.2.2.1 t.2.2.2) FU (((8 : Int32) + (o1.1 * (4 : Int32))), (o1.2.2.1 10 (o1.2.1 9).toNatClampNeg), (0 : Int32), o1.2)
def fMX12_spot_0 (nb : Nat) (σ : XS) : Option (Int32 × XS) := fMX12_spot_0_0 nb σ
def fMX12_make_0_382 (nb : Nat) (k382 : (Int32 × Int32 × XS) → Option (Int32 × XS)) (x7 : Int32) (x8 : Int32) (σ : XS) : Option (Int32 × XS) :=
(fMX12_finds_0 nb (σ.1 9) x8 σ).bind fun o48 =>
if o48.1 = 0 then
  some (x8, o48.2)
else
  if (o48.2.1 10) = x7 then
    some (x8, o48.2)
  else
    k382 (x7, (x8 + (1 : Int32)), o48.2)
def fMX12_make_0_374 (nb : Nat) (x7 : Int32) (σ : XS) : Option (Int32 × XS) :=
lfix (fun k382 t => fMX12_make_0_382 nb k382 t.1 t.2.1 t.2.2) FU (x7, (0 : Int32), (stS σ 3 (0 : Int32)))
def fMX12_make_0_351 (nb : Nat) (x1 : Int32) (x5 : Int32) (x7 : Int32) (σ : XS) : Option (Int32 × XS) :=
if x1 = 0 then
  fMX12_make_0_374 nb x7 σ
else
  (fMX12_folder_0 nb x5 σ).bind fun o53 =>
  if (o53.1 9) < 0 ∨ 2100 ≤ (o53.1 9).toNatClampNeg then none else
  if (o53.1 9) < 0 ∨ 2100 ≤ (o53.1 9).toNatClampNeg then none else
  fMX12_make_0_374 nb x7 (stA o53 8 (o53.1 9).toNatClampNeg ((o53.2.1 8 (o53.1 9).toNatClampNeg) + (1 : Int32)))
def fMX12_make_0_327 (nb : Nat) (x1 : Int32) (x5 : Int32) (x7 : Int32) (x8 : Int32) (x9 : Int32) (σ : XS) : Option (Int32 × XS) :=
if x5 < 0 ∨ 2100 ≤ x5.toNatClampNeg then none else
(fMX12_entry_0 nb (x7 + x9) x5 x8 (σ.2.1 6 x5.toNatClampNeg) σ).bind fun o44 =>
fMX12_make_0_351 nb x1 x5 (x7 + x9) o44
def fMX12_make_0_203 (nb : Nat) (x1 : Int32) (x4 : Int32) (x5 : Int32) (y0 : Int32) (y1 : Int32) (σ : XS) : Option (Int32 × XS) :=
if y1 < 0 ∨ 2100 ≤ y1.toNatClampNeg then none else
if x5 < 0 ∨ 2100 ≤ x5.toNatClampNeg then none else
if x4 = 0 then
  (fMX12_gain_0 nb (σ.1 9) (stA (stA σ 8 y1.toNatClampNeg y0) 15 x5.toNatClampNeg (σ.1 9))).bind fun o61 =>
  if (o61.1 9) < 0 ∨ 2100 ≤ (o61.1 9).toNatClampNeg then none else
  if (o61.1 9) < 0 ∨ 2100 ≤ (o61.1 9).toNatClampNeg then none else
  if (o61.1 9) < 0 ∨ 2100 ≤ (o61.1 9).toNatClampNeg then none else
  if x5 < 0 ∨ 2100 ≤ x5.toNatClampNeg then none else
  (fMX12_entry_0 nb ((1024 : Int32) * ((stA o61 7 (o61.1 9).toNatClampNeg ((o61.2.1 7 (o61.1 9).toNatClampNeg) + (1024 : Int32))).2.1 11 (o61.1 9).toNatClampNeg)) x5 (1024 : Int32) ((stA o61 7 (o61.1 9).toNatClampNeg ((o61.2.1 7 (o61.1 9).toNatClampNeg) + (1024 : Int32))).2.1 6 x5.toNatClampNeg) (stA o61 7 (o61.1 9).toNatClampNeg ((o61.2.1 7 (o61.1 9).toNatClampNeg) + (1024 : Int32)))).bind fun o68 =>
  fMX12_make_0_351 nb x1 x5 ((1024 : Int32) * ((stA o61 7 (o61.1 9).toNatClampNeg ((o61.2.1 7 (o61.1 9).toNatClampNeg) + (1024 : Int32))).2.1 11 (o61.1 9).toNatClampNeg)) o68
else
  (fMX12_two_0 nb ((σ.1 10) + (4 : Int32)) (stA (stA σ 8 y1.toNatClampNeg y0) 15 x5.toNatClampNeg (σ.1 9))).bind fun o33 =>
  (fMX12_uses_0 nb (σ.1 10) o33.2).bind fun o36 =>
  (fMX12_uses_0 nb (σ.1 10) o36.2).bind fun o39 =>
  if x4 = (1 : Int32) then
    (fMX12_set_0 nb ((σ.1 10) + (4 : Int32)) (2 : Int32) o39.1 o39.2).bind fun o58 =>
    fMX12_make_0_327 nb x1 x5 (σ.1 10) (o33.1 - o36.1) o39.1 o58
  else
    fMX12_make_0_327 nb x1 x5 (σ.1 10) (o33.1 - o36.1) o39.1 o39.2
def fMX12_make_0_181 (nb : Nat) (x1 : Int32) (x4 : Int32) (x5 : Int32) (y0 : Int32) (y1 : Int32) (σ : XS) : Option (Int32 × XS) :=
if y1 < 0 ∨ 2100 ≤ y1.toNatClampNeg then none else
(fMX12_clear_0 nb x5 (stA σ 6 y1.toNatClampNeg y0)).bind fun o26 =>
if x1 = 0 then
  fMX12_make_0_203 nb x1 x4 x5 (1 : Int32) x5 o26
else
  fMX12_make_0_203 nb x1 x4 x5 (2 : Int32) x5 o26
def fMX12_make_0_157 (nb : Nat) (x1 : Int32) (x4 : Int32) (x5 : Int32) (y0 : Int32) (σ : XS) : Option (Int32 × XS) :=
(fMX12_fails_0 nb y0 (3 : Int32) σ).bind fun o20 =>
if o20.1 = 0 then
  if x1 = 0 then
    fMX12_make_0_181 nb x1 x4 x5 (1 : Int32) x5 o20.2
  else
    fMX12_make_0_181 nb x1 x4 x5 (2 : Int32) x5 o20.2
else
  some ((0 : Int32), o20.2)
def fMX12_make_0_152 (nb : Nat) (x1 : Int32) (x4 : Int32) (x5 : Int32) (σ : XS) : Option (Int32 × XS) :=
fMX12_make_0_157 nb x1 x4 x5 (1 : Int32) σ
def fMX12_make_0_125 (nb : Nat) (x1 : Int32) (x4 : Int32) (x5 : Int32) (y0 : Int32) (y1 : Int32) (σ : XS) : Option (Int32 × XS) :=
if ((σ.1 7) * (σ.1 5)) < x5 then
  fMX12_make_0_152 nb x1 x4 x5 σ
else
  (fMX12_freeBlocks_0 nb σ).bind fun o71 =>
  if (y1 + y0) ≤ o71.1 then
    fMX12_make_0_157 nb x1 x4 x5 (0 : Int32) o71.2
  else
    fMX12_make_0_152 nb x1 x4 x5 o71.2
def fMX12_make_0_116 (nb : Nat) (x1 : Int32) (x4 : Int32) (x5 : Int32) (y0 : Int32) (σ : XS) : Option (Int32 × XS) :=
if x1 = 0 then
  fMX12_make_0_125 nb x1 x4 x5 (0 : Int32) y0 σ
else
  fMX12_make_0_125 nb x1 x4 x5 (1 : Int32) y0 σ
def fMX12_make_0_80 (nb : Nat) (x1 : Int32) (x4 : Int32) (x5 : Int32) (σ : XS) : Option (Int32 × XS) :=
if x4 = 0 then
  if (σ.1 9) < 0 ∨ 2100 ≤ (σ.1 9).toNatClampNeg then none else
  (fMX12_all nb ((σ.2.1 9 (σ.1 9).toNatClampNeg) + (1 : Int32)) σ).bind fun o76 =>
  if (o76.2.1 9) < 0 ∨ 2100 ≤ (o76.2.1 9).toNatClampNeg then none else
  (fMX12_all nb (o76.2.2.1 9 (o76.2.1 9).toNatClampNeg) o76.2).bind fun o80 =>
  fMX12_make_0_116 nb x1 x4 x5 (o76.1 - o80.1) o80.2
else
  fMX12_make_0_116 nb x1 x4 x5 (0 : Int32) σ
def fMX12_make_0_50 (nb : Nat) (k50 : (Int32 × Int32 × Int32 × XS) → Option (Int32 × XS)) (x1 : Int32) (x4 : Int32) (x5 : Int32) (σ : XS) : Option (Int32 × XS) :=
if ((σ.1 7) * (σ.1 5)) < x5 then
  fMX12_make_0_80 nb x1 x4 x5 σ
else
  if x5 < 0 ∨ 2100 ≤ x5.toNatClampNeg then none else
  if (σ.2.1 6 x5.toNatClampNeg) = 0 then
    fMX12_make_0_80 nb x1 x4 x5 σ
  else
    k50 (x1, x4, (x5 + (1 : Int32)), σ)
def fMX12_make_0_31 (nb : Nat) (x1 : Int32) (y0 : Int32) (σ : XS) : Option (Int32 × XS) :=
(fMX12_fails_0 nb y0 (2 : Int32) σ).bind fun o9 =>
if o9.1 = 0 then
  (fMX12_spot_0 nb o9.2).bind fun o13 =>
  lfix (fun k50 t => fMX12_make_0_50 nb k50 t.1 t.2.1 t.2.2.1 t.2.2.2) FU (x1, o13.1, (12 : Int32), o13.2)
else
  some ((0 : Int32), o9.2)
def fMX12_make_0_26 (nb : Nat) (x1 : Int32) (σ : XS) : Option (Int32 × XS) :=
fMX12_make_0_31 nb x1 (1 : Int32) σ
def fMX12_make_0_0 (nb : Nat) (x1 : Int32) (σ : XS) : Option (Int32 × XS) :=
(fMX12_none_0 nb σ).bind fun o1 =>
(fMX12_named_0 nb o1.2).bind fun o4 =>
if o1.1 = 0 then
  if o4.1 = 0 then
    fMX12_make_0_26 nb x1 o4.2
  else
    (fMX12_isTaken_0 nb o4.2).bind fun o85 =>
    if o85.1 = 0 then
      fMX12_make_0_31 nb x1 (0 : Int32) o85.2
    else
      fMX12_make_0_26 nb x1 o85.2
else
  some ((0 : Int32), o4.2)
def fMX12_make_0 (nb : Nat) (x1 : Int32) (σ : XS) : Option (Int32 × XS) := fMX12_make_0_0 nb x1 σ
def fMX12_append_0_191 (nb : Nat) (k90 : (Int32 × Int32 × Int32 × Int32 × Int32 × Int32 × Int32 × XS) → Option (Int32 × XS)) (x1 : Int32) (x2 : Int32) (x3 : Int32) (x4 : Int32) (x5 : Int32) (x7 : Int32) (x8 : Int32) (y0 : Int32) (y1 : Int32) (σ : XS) : Option (Int32 × XS) :=
if y1 < 0 ∨ 524288 ≤ y1.toNatClampNeg then none else
k90 (x1, x2, x3, x4, x5, x7, (x8 + (1 : Int32)), (stA σ 0 y1.toNatClampNeg (vp_nar .byte y0)))
def fMX12_append_0_143 (nb : Nat) (k90 : (Int32 × Int32 × Int32 × Int32 × Int32 × Int32 × Int32 × XS) → Option (Int32 × XS)) (x1 : Int32) (x2 : Int32) (x3 : Int32) (x4 : Int32) (x5 : Int32) (x8 : Int32) (x9 : Int32) (y0 : Int32) (σ : XS) : Option (Int32 × XS) :=
if x3 = 0 then
  fMX12_append_0_191 nb k90 x1 x2 x3 x4 x5 y0 x8 (((x4 + (x8 * x8)) + (x8 >>> ((8 : Int32) &&& 31))).toInt8.toInt32) (((1024 : Int32) * y0) + (x9 - x9 / (1024 : Int32) * (1024 : Int32))) σ
else
  if x8 < 0 ∨ 4096 ≤ x8.toNatClampNeg then none else
  fMX12_append_0_191 nb k90 x1 x2 x3 x4 x5 y0 x8 (σ.2.1 2 x8.toNatClampNeg) (((1024 : Int32) * y0) + (x9 - x9 / (1024 : Int32) * (1024 : Int32))) σ
def fMX12_append_0_90 (nb : Nat) (k90 : (Int32 × Int32 × Int32 × Int32 × Int32 × Int32 × Int32 × XS) → Option (Int32 × XS)) (x1 : Int32) (x2 : Int32) (x3 : Int32) (x4 : Int32) (x5 : Int32) (x7 : Int32) (x8 : Int32) (σ : XS) : Option (Int32 × XS) :=
if x2 ≤ x8 then
  if x1 < 0 ∨ 2100 ≤ x1.toNatClampNeg then none else
  if x1 < 0 ∨ 2100 ≤ x1.toNatClampNeg then none else
  some (((stS (stA σ 7 x1.toNatClampNeg (x5 + x2)) 3 (0 : Int32)).2.1 7 x1.toNatClampNeg), (stS (stA σ 7 x1.toNatClampNeg (x5 + x2)) 3 (0 : Int32)))
else
  if x8 = 0 then
    (fMX12_blockOf_0 nb x1 ((x5 + x8) / (1024 : Int32)) σ).bind fun o34 =>
    fMX12_append_0_143 nb k90 x1 x2 x3 x4 x5 x8 (x5 + x8) o34.1 o34.2
  else
    if ((x5 + x8) - (x5 + x8) / (1024 : Int32) * (1024 : Int32)) = 0 then
      if x7 < 0 ∨ 512 ≤ x7.toNatClampNeg then none else
      fMX12_append_0_143 nb k90 x1 x2 x3 x4 x5 x8 (x5 + x8) (σ.2.1 5 x7.toNatClampNeg) σ
    else
      fMX12_append_0_143 nb k90 x1 x2 x3 x4 x5 x8 (x5 + x8) x7 σ
def fMX12_append_0_57 (nb : Nat) (k57 : (Int32 × Int32 × Int32 × Int32 × Int32 × XS) → Option (Int32 × XS)) (x1 : Int32) (x2 : Int32) (x3 : Int32) (x4 : Int32) (x5 : Int32) (σ : XS) : Option (Int32 × XS) :=
if x1 < 0 ∨ 2100 ≤ x1.toNatClampNeg then none else
(fMX12_parts nb (x5 + x2) (1024 : Int32) σ).bind fun o21 =>
if o21.1 ≤ (σ.2.1 9 x1.toNatClampNeg) then
  lfix (fun k90 t => fMX12_append_0_90 nb k90 t.1 t.2.1 t.2.2.1 t.2.2.2.1 t.2.2.2.2.1 t.2.2.2.2.2.1 t.2.2.2.2.2.2.1 t.2.2.2.2.2.2.2) FU (x1, x2, x3, x4, x5, (0 : Int32), (0 : Int32), o21.2)
else
  (fMX12_gain_0 nb x1 o21.2).bind fun o37 =>
  k57 (x1, x2, x3, x4, x5, o37)
def fMX12_append_0_48 (nb : Nat) (x1 : Int32) (x2 : Int32) (x3 : Int32) (x4 : Int32) (x5 : Int32) (y0 : Int32) (σ : XS) : Option (Int32 × XS) :=
(fMX12_fails_0 nb y0 (4 : Int32) σ).bind fun o16 =>
if o16.1 = 0 then
  lfix (fun k57 t => fMX12_append_0_57 nb k57 t.1 t.2.1 t.2.2.1 t.2.2.2.1 t.2.2.2.2.1 t.2.2.2.2.2) FU (x1, x2, x3, x4, x5, o16.2)
else
  some ((0 : Int32), o16.2)
def fMX12_append_0_0 (nb : Nat) (x1 : Int32) (x2 : Int32) (x3 : Int32) (x4 : Int32) (σ : XS) : Option (Int32 × XS) :=
if x1 < 0 ∨ 2100 ≤ x1.toNatClampNeg then none else
(fMX12_parts nb ((σ.2.1 7 x1.toNatClampNeg) + x2) (1024 : Int32) σ).bind fun o2 =>
(fMX12_all nb o2.1 o2.2).bind fun o5 =>
if x1 < 0 ∨ 2100 ≤ x1.toNatClampNeg then none else
(fMX12_all nb (o5.2.2.1 9 x1.toNatClampNeg) o5.2).bind fun o9 =>
(fMX12_freeBlocks_0 nb o9.2).bind fun o12 =>
if (o5.1 - o9.1) ≤ o12.1 then
  fMX12_append_0_48 nb x1 x2 x3 x4 (σ.2.1 7 x1.toNatClampNeg) (0 : Int32) o12.2
else
  fMX12_append_0_48 nb x1 x2 x3 x4 (σ.2.1 7 x1.toNatClampNeg) (1 : Int32) o12.2
def fMX12_append_0 (nb : Nat) (x1 : Int32) (x2 : Int32) (x3 : Int32) (x4 : Int32) (σ : XS) : Option (Int32 × XS) := fMX12_append_0_0 nb x1 x2 x3 x4 σ
def fMX12_noFile_0_42 (nb : Nat) (σ : XS) : Option (Int32 × XS) :=
some ((1 : Int32), σ)
def fMX12_noFile_0_35 (nb : Nat) (y0 : Int32) (σ : XS) : Option (Int32 × XS) :=
(fMX12_fails_0 nb y0 (3 : Int32) σ).bind fun o10 =>
if o10.1 = 0 then
  some ((0 : Int32), o10.2)
else
  fMX12_noFile_0_42 nb o10.2
def fMX12_noFile_0_30 (nb : Nat) (σ : XS) : Option (Int32 × XS) :=
fMX12_noFile_0_35 nb (1 : Int32) σ
def fMX12_noFile_0_0 (nb : Nat) (x1 : Int32) (x2 : Int32) (σ : XS) : Option (Int32 × XS) :=
(fMX12_no_0 nb x1 σ).bind fun o1 =>
if o1.1 = 0 then
  (fMX12_four_0 nb (o1.2.1 10) o1.2).bind fun o5 =>
  if o5.1 < 0 ∨ 2100 ≤ o5.1.toNatClampNeg then none else
  if (o5.2.2.1 6 o5.1.toNatClampNeg) = (1 : Int32) then
    if x2 = 0 then
      fMX12_noFile_0_35 nb (0 : Int32) o5.2
    else
      fMX12_noFile_0_30 nb o5.2
  else
    fMX12_noFile_0_30 nb o5.2
else
  fMX12_noFile_0_42 nb o1.2
def fMX12_noFile_0 (nb : Nat) (x1 : Int32) (x2 : Int32) (σ : XS) : Option (Int32 × XS) := fMX12_noFile_0_0 nb x1 x2 σ
def fMX12_write_0_0 (nb : Nat) (x1 : Int32) (σ : XS) : Option (Int32 × XS) :=
(fMX12_noFile_0 nb x1 (0 : Int32) (stS σ 1 (0 : Int32))).bind fun o1 =>
if o1.1 = 0 then
  (fMX12_four_0 nb (o1.2.1 10) o1.2).bind fun o5 =>
  (fMX12_append_0 nb o5.1 (σ.1 1) (1 : Int32) (0 : Int32) o5.2).bind fun o8 =>
  some (o8.1, o8.2)
else
  some ((0 : Int32), o1.2)
def fMX12_write_0 (nb : Nat) (x1 : Int32) (σ : XS) : Option (Int32 × XS) := fMX12_write_0_0 nb x1 σ
def fMX12_grow_0_17 (nb : Nat) (x2 : Int32) (x3 : Int32) (y0 : Int32) (y1 : Int32) (σ : XS) : Option (Int32 × XS) :=
(fMX12_noFile_0 nb y1 y0 σ).bind fun o2 =>
if o2.1 = 0 then
  (fMX12_four_0 nb (o2.2.1 10) o2.2).bind fun o6 =>
  (fMX12_append_0 nb o6.1 x2 (0 : Int32) x3 o6.2).bind fun o9 =>
  some (o9.1, o9.2)
else
  some ((0 : Int32), o2.2)
def fMX12_grow_0_12 (nb : Nat) (x2 : Int32) (x3 : Int32) (y0 : Int32) (σ : XS) : Option (Int32 × XS) :=
fMX12_grow_0_17 nb x2 x3 (1 : Int32) y0 σ
def fMX12_grow_0_0 (nb : Nat) (x1 : Int32) (x2 : Int32) (x3 : Int32) (σ : XS) : Option (Int32 × XS) :=
if x2 < 0 then
  fMX12_grow_0_12 nb x2 x3 x1 σ
else
  if x2 ≤ (400000 : Int32) then
    fMX12_grow_0_17 nb x2 x3 (0 : Int32) x1 σ
  else
    fMX12_grow_0_12 nb x2 x3 x1 σ
def fMX12_grow_0 (nb : Nat) (x1 : Int32) (x2 : Int32) (x3 : Int32) (σ : XS) : Option (Int32 × XS) := fMX12_grow_0_0 nb x1 x2 x3 σ
def fMX12_cut_0_40 (nb : Nat) (x2 : Int32) (y0 : Int32) (σ : XS) : Option (Int32 × XS) :=
(fMX12_fails_0 nb y0 (3 : Int32) σ).bind fun o11 =>
if o11.1 = 0 then
  (fMX12_four_0 nb (o11.2.1 10) o11.2).bind fun o15 =>
  if o15.1 < 0 ∨ 2100 ≤ o15.1.toNatClampNeg then none else
  (fMX12_all nb (o15.2.2.1 9 o15.1.toNatClampNeg) o15.2).bind fun o19 =>
  (fMX12_parts nb x2 (1024 : Int32) o19.2).bind fun o22 =>
  (fMX12_keep_0 nb o15.1 o22.1 o22.2).bind fun o25 =>
  if o15.1 < 0 ∨ 2100 ≤ o15.1.toNatClampNeg then none else
  if o15.1 < 0 ∨ 2100 ≤ o15.1.toNatClampNeg then none else
  (fMX12_all nb ((stS (stA o25 7 o15.1.toNatClampNeg x2) 3 (0 : Int32)).2.1 9 o15.1.toNatClampNeg) (stS (stA o25 7 o15.1.toNatClampNeg x2) 3 (0 : Int32))).bind fun o30 =>
  some ((o19.1 - o30.1), o30.2)
else
  some ((0 : Int32), o11.2)
def fMX12_cut_0_11 (nb : Nat) (x2 : Int32) (y0 : Int32) (y1 : Int32) (σ : XS) : Option (Int32 × XS) :=
(fMX12_noFile_0 nb y1 y0 σ).bind fun o2 =>
if o2.1 = 0 then
  (fMX12_four_0 nb (o2.2.1 10) o2.2).bind fun o6 =>
  if o6.1 < 0 ∨ 2100 ≤ o6.1.toNatClampNeg then none else
  if x2 ≤ (o6.2.2.1 7 o6.1.toNatClampNeg) then
    fMX12_cut_0_40 nb x2 (0 : Int32) o6.2
  else
    fMX12_cut_0_40 nb x2 (1 : Int32) o6.2
else
  some ((0 : Int32), o2.2)
def fMX12_cut_0_0 (nb : Nat) (x1 : Int32) (x2 : Int32) (σ : XS) : Option (Int32 × XS) :=
if 0 ≤ x2 then
  fMX12_cut_0_11 nb x2 (0 : Int32) x1 σ
else
  fMX12_cut_0_11 nb x2 (1 : Int32) x1 σ
def fMX12_cut_0 (nb : Nat) (x1 : Int32) (x2 : Int32) (σ : XS) : Option (Int32 × XS) := fMX12_cut_0_0 nb x1 x2 σ
def fMX12_remove_0_84 (nb : Nat) (x2 : Int32) (x3 : Int32) (x4 : Int32) (σ : XS) : Option XS :=
(fMX12_keep_0 nb x4 (0 : Int32) σ).bind fun o16 =>
(fMX12_clear_0 nb x4 o16).bind fun o19 =>
if x4 < 0 ∨ 2100 ≤ x4.toNatClampNeg then none else
if x3 = (-1 : Int32) then
  (fMX12_set_0 nb x2 (4 : Int32) (0 : Int32) (stA o19 6 x4.toNatClampNeg (0 : Int32))).bind fun o33 =>
  some (stS o33 3 (0 : Int32))
else
  (fMX12_two_0 nb (x3 + (4 : Int32)) (stA o19 6 x4.toNatClampNeg (0 : Int32))).bind fun o24 =>
  (fMX12_two_0 nb (x2 + (4 : Int32)) o24.2).bind fun o27 =>
  (fMX12_set_0 nb (x3 + (4 : Int32)) (2 : Int32) (o24.1 + o27.1) o27.2).bind fun o30 =>
  some (stS o30 3 (0 : Int32))
def fMX12_remove_0_52 (nb : Nat) (x2 : Int32) (x3 : Int32) (x4 : Int32) (y0 : Int32) (σ : XS) : Option XS :=
(fMX12_fails_0 nb y0 (3 : Int32) σ).bind fun o10 =>
if o10.1 = 0 then
  if x4 < 0 ∨ 2100 ≤ x4.toNatClampNeg then none else
  if (o10.2.2.1 6 x4.toNatClampNeg) = (2 : Int32) then
    if (o10.2.1 9) < 0 ∨ 2100 ≤ (o10.2.1 9).toNatClampNeg then none else
    if (o10.2.1 9) < 0 ∨ 2100 ≤ (o10.2.1 9).toNatClampNeg then none else
    fMX12_remove_0_84 nb x2 x3 x4 (stA o10.2 8 (o10.2.1 9).toNatClampNeg ((o10.2.2.1 8 (o10.2.1 9).toNatClampNeg) - (1 : Int32)))
  else
    fMX12_remove_0_84 nb x2 x3 x4 o10.2
else
  some o10.2
def fMX12_remove_0_51 (nb : Nat) (x2 : Int32) (x3 : Int32) (x4 : Int32) (σ : XS) : Option XS :=
fMX12_remove_0_52 nb x2 x3 x4 (0 : Int32) σ
def fMX12_remove_0_0 (nb : Nat) (x1 : Int32) (σ : XS) : Option XS :=
(fMX12_no_0 nb x1 σ).bind fun o1 =>
if o1.1 = 0 then
  (fMX12_four_0 nb (o1.2.1 10) o1.2).bind fun o5 =>
  if o5.1 < 0 ∨ 2100 ≤ o5.1.toNatClampNeg then none else
  if (o5.2.2.1 6 o5.1.toNatClampNeg) = (2 : Int32) then
    (fMX12_count_0 nb o5.1 o5.2).bind fun o38 =>
    if o38.1 ≤ 0 then
      fMX12_remove_0_51 nb (o1.2.1 10) (o1.2.1 11) o5.1 o38.2
    else
      fMX12_remove_0_52 nb (o1.2.1 10) (o1.2.1 11) o5.1 (1 : Int32) o38.2
  else
    fMX12_remove_0_51 nb (o1.2.1 10) (o1.2.1 11) o5.1 o5.2
else
  some o1.2
def fMX12_remove_0 (nb : Nat) (x1 : Int32) (σ : XS) : Option XS := fMX12_remove_0_0 nb x1 σ
def fMX12_stamp_0_23 (nb : Nat) (x2 : Int32) (x3 : Int64) (y0 : Int32) (σ : XS) : Option XS :=
(fMX12_fails_0 nb y0 (3 : Int32) σ).bind fun o6 =>
if o6.1 = 0 then
  (fMX12_four_0 nb (o6.2.1 10) o6.2).bind fun o10 =>
  if (((3 : Int32) * o10.1) + x2) < 0 ∨ 6300 ≤ (((3 : Int32) * o10.1) + x2).toNatClampNeg then none else
  some (stS (stL o10.2 0 (((3 : Int32) * o10.1) + x2).toNatClampNeg (x3 &&& (4294967295 : Int64))) 3 (0 : Int32))
else
  some o6.2
def fMX12_stamp_0_18 (nb : Nat) (x2 : Int32) (x3 : Int64) (σ : XS) : Option XS :=
fMX12_stamp_0_23 nb x2 x3 (1 : Int32) σ
def fMX12_stamp_0_0 (nb : Nat) (x1 : Int32) (x2 : Int32) (x3 : Int64) (σ : XS) : Option XS :=
(fMX12_no_0 nb x1 σ).bind fun o1 =>
if o1.1 = 0 then
  if x2 < 0 then
    fMX12_stamp_0_18 nb x2 x3 o1.2
  else
    if x2 ≤ (2 : Int32) then
      fMX12_stamp_0_23 nb x2 x3 (0 : Int32) o1.2
    else
      fMX12_stamp_0_18 nb x2 x3 o1.2
else
  some o1.2
def fMX12_stamp_0 (nb : Nat) (x1 : Int32) (x2 : Int32) (x3 : Int64) (σ : XS) : Option XS := fMX12_stamp_0_0 nb x1 x2 x3 σ
