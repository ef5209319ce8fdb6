theorem lit (n : Nat) [OfNat Nat n] : (OfNat.ofNat n : Int32) = nI n := id (Eq.refl _)
theorem litN (n : Nat) : Int32.ofNat n = nI n := id (Eq.refl _)
theorem nI_mul (a b : Nat) : nI a * nI b = nI (a * b) := (Int32.ofNat_mul a b).symm
theorem nI_sub {a b : Nat} (h : b ≤ a) : nI a - nI b = nI (a - b) := by
  have h1 : nI (a - b) + nI b = nI a := by rw [nI_add, Nat.sub_add_cancel h]
  rw [← h1]; exact Int32.add_sub_cancel _ _
theorem nI_div {a b : Nat} (ha : a < 2 ^ 31) (hb : b < 2 ^ 31) : nI a / nI b = nI (a / b) := by
  have hd : a / b ≤ a := Nat.div_le_self a b
  apply Int32.toInt_inj.mp
  rw [Int32.toInt_div, nI_toInt ha, nI_toInt hb, nI_toInt (Nat.lt_of_le_of_lt hd ha), ← Int.ofNat_tdiv]
  have h0 : (0 : Int) ≤ ((a / b : Nat) : Int) := Int.natCast_nonneg _
  rw [Int.bmod_eq_of_le] <;> omega
theorem nI_sub_dm (a b : Nat) : nI a - nI (a / b * b) = nI (a % b) := by
  rw [nI_sub (Nat.div_mul_le_self a b)]
  have := Nat.div_add_mod' a b
  congr 1; omega
theorem nI_ltI' {a b : Nat} (ha : a < 2 ^ 31) (hb : b < 2 ^ 31) : (nI a < nI b) = (a < b) := by
  apply propext; rw [Int32.lt_iff_toInt_lt, nI_toInt ha, nI_toInt hb]; omega
theorem nI_leI' {a b : Nat} (ha : a < 2 ^ 31) (hb : b < 2 ^ 31) : (nI a ≤ nI b) = (a ≤ b) := propext (nI_leI ha hb)
theorem nI_eqI {a b : Nat} (ha : a < 2 ^ 31) (hb : b < 2 ^ 31) : (nI a = nI b) = (a = b) := propext (nI_eq ha hb)
theorem nI_clampI {n : Nat} (h : n < 2 ^ 31) : (nI n).toNatClampNeg = n := nI_clamp h

theorem nI_u (n : Nat) (hn : n < 2 ^ 32) : (nI n).toUInt32.toNat = n := by
  show (UInt32.ofNat n).toNat = n
  rw [UInt32.toNat_ofNat', Nat.mod_eq_of_lt hn]
theorem nI_all (x : Int32) : ∃ n : Nat, n < 2 ^ 32 ∧ x = nI n := ⟨x.toUInt32.toNat, x.toUInt32.toNat_lt, by
  have h := nI_u x.toUInt32.toNat x.toUInt32.toNat_lt
  have h2 : (nI x.toUInt32.toNat).toUInt32 = x.toUInt32 := UInt32.toNat_inj.mp h
  exact (Int32.toBitVec_inj.mp (congrArg UInt32.toBitVec h2)).symm⟩
theorem nI_inj {a b : Nat} (ha : a < 2 ^ 32) (hb : b < 2 ^ 32) (h : nI a = nI b) : a = b := by
  have h1 := congrArg (fun x : Int32 => x.toUInt32.toNat) h
  simp only [nI_u a ha, nI_u b hb] at h1; exact h1
-- bytes
def sb (n : Nat) : Int32 := (nI n).toInt8.toInt32
theorem sb_mod (n : Nat) : sb (n % 256) = sb n := by
  unfold sb
  congr 1
  apply Int8.toBitVec_inj.mp
  show (BitVec.ofNat 32 (n % 256)).signExtend 8 = (BitVec.ofNat 32 n).signExtend 8
  apply BitVec.eq_of_toNat_eq
  rw [BitVec.signExtend_eq_setWidth_of_le _ (by decide), BitVec.signExtend_eq_setWidth_of_le _ (by decide)]
  simp only [BitVec.toNat_setWidth, BitVec.toNat_ofNat]
  omega
theorem sb_and (n : Nat) : sb n &&& nI 255 = nI (n % 256) := by
  rw [← sb_mod]
  have h : n % 256 < 256 := Nat.mod_lt _ (by decide)
  revert h; generalize n % 256 = m; revert m
  decide +kernel
theorem sb_fits (n : Nat) : fits .byte (.int (sb n)) = true := by
  rw [← sb_mod]
  have h : n % 256 < 256 := Nat.mod_lt _ (by decide)
  revert h; generalize n % 256 = m; revert m
  decide +kernel
theorem sb_inj {a b : Nat} (h : sb a = sb b) : a % 256 = b % 256 := by
  have h1 := sb_and a; rw [h, sb_and b] at h1
  exact (nI_inj (by omega) (by omega) h1).symm
theorem nar_sb (n : Nat) : vp_nar .byte (sb n) = sb n := by
  rw [← sb_mod]
  have h : n % 256 < 256 := Nat.mod_lt _ (by decide)
  revert h; generalize n % 256 = m; revert m
  decide +kernel
theorem nar_nI (n : Nat) : vp_nar .byte (nI n) = sb n := id (Eq.refl _)
theorem byt_nI (n : Nat) : (nI n).toInt8.toInt32 = sb n := id (Eq.refl _)
theorem nI_or (a b : Nat) : nI a ||| nI b = nI (a ||| b) := by
  apply Int32.toBitVec_inj.mp
  show BitVec.ofNat 32 a ||| BitVec.ofNat 32 b = BitVec.ofNat 32 (a ||| b)
  apply BitVec.eq_of_toNat_eq
  simp only [BitVec.toNat_or, BitVec.toNat_ofNat, Nat.or_mod_two_pow]
theorem nI_and (a b : Nat) : nI a &&& nI b = nI (a &&& b) := by
  apply Int32.toBitVec_inj.mp
  show BitVec.ofNat 32 a &&& BitVec.ofNat 32 b = BitVec.ofNat 32 (a &&& b)
  apply BitVec.eq_of_toNat_eq
  simp only [BitVec.toNat_and, BitVec.toNat_ofNat, Nat.and_mod_two_pow]
theorem smod32 {k : Nat} (hk : k < 32) : (nI k).toBitVec.smod 32 = BitVec.ofNat 32 k := by
  revert k; decide +kernel
theorem nI_shl {k : Nat} (hk : k < 32) (b : Nat) : nI b <<< nI k = nI (b * 2 ^ k) := by
  apply Int32.toBitVec_inj.mp
  show BitVec.ofNat 32 b <<< ((nI k).toBitVec.smod 32) = BitVec.ofNat 32 (b * 2 ^ k)
  rw [smod32 hk]
  apply BitVec.eq_of_toNat_eq
  simp only [BitVec.shiftLeft_eq', BitVec.toNat_shiftLeft, BitVec.toNat_ofNat, Nat.shiftLeft_eq]
  rw [Nat.mod_eq_of_lt (a := k) (by omega)]
  rw [Nat.mod_mul_mod]
theorem nI_sh31 {k : Nat} (hk : k < 32) : nI k &&& nI 31 = nI k := by
  revert k; decide +kernel
theorem nI_orsh (a b k : Nat) (ha : a < 2 ^ k) : nI a ||| nI (b * 2 ^ k) = nI (a + b * 2 ^ k) := by
  rw [nI_or, Nat.or_comm, ← Nat.shiftLeft_eq, ← Nat.shiftLeft_add_eq_or_of_lt ha, Nat.add_comm]
theorem sb_shr (v k : Nat) (hk : k ≤ 24) : ((nI v) >>> (nI k)).toInt8.toInt32 = sb (v / 2 ^ k) := by
  unfold sb
  congr 1
  apply Int8.toBitVec_inj.mp
  show (BitVec.sshiftRight' (BitVec.ofNat 32 v) ((nI k).toBitVec.smod 32)).signExtend 8 = (BitVec.ofNat 32 (v / 2 ^ k)).signExtend 8
  rw [smod32 (by omega)]
  apply BitVec.eq_of_getLsbD_eq
  intro i hi
  rw [BitVec.signExtend_eq_setWidth_of_le _ (by decide), BitVec.signExtend_eq_setWidth_of_le _ (by decide)]
  simp only [BitVec.getLsbD_setWidth, BitVec.sshiftRight_eq', BitVec.toNat_ofNat, BitVec.getLsbD_sshiftRight, BitVec.getLsbD_ofNat, Nat.testBit_div_two_pow]
  have h1 : k % 2 ^ 32 = k := Nat.mod_eq_of_lt (by omega)
  rw [h1]
  simp only [hi, decide_true, Bool.true_and, show i < 32 from by omega, show k + i < 32 from by omega, if_true, show ¬ (32 ≤ i) from by omega, decide_false, Bool.not_false, Nat.add_comm i k]
theorem nI_shr {v k : Nat} (hv : v < 2 ^ 31) (hk : k < 32) : nI v >>> nI k = nI (v / 2 ^ k) := by
  apply Int32.toBitVec_inj.mp
  show (BitVec.sshiftRight' (BitVec.ofNat 32 v) ((nI k).toBitVec.smod 32)) = BitVec.ofNat 32 (v / 2 ^ k)
  rw [smod32 hk]
  apply BitVec.eq_of_toNat_eq
  have h1 : k % 2 ^ 32 = k := Nat.mod_eq_of_lt (by omega)
  have h2 : (BitVec.ofNat 32 v).msb = false := by
    rw [BitVec.msb_eq_false_iff_two_mul_lt, BitVec.toNat_ofNat, Nat.mod_eq_of_lt (by omega)]; omega
  have h3 : v / 2 ^ k ≤ v := Nat.div_le_self _ _
  rw [BitVec.sshiftRight_eq', BitVec.sshiftRight_eq_of_msb_false h2, BitVec.toNat_ushiftRight, BitVec.toNat_ofNat, BitVec.toNat_ofNat, BitVec.toNat_ofNat, h1, Nat.shiftRight_eq_div_pow, Nat.mod_eq_of_lt (a := v) (by omega), Nat.mod_eq_of_lt (by omega)]
