-- the state: numbers and rows of numbers
abbrev XS : Type := (Nat → Int32) × (Nat → Nat → Int32) × (Nat → Nat → Int64)
def stS (σ : XS) (k : Nat) (v : Int32) : XS := (upd σ.1 k v, σ.2)
def stA (σ : XS) (k i : Nat) (v : Int32) : XS := (σ.1, va_up σ.2.1 k (upd (σ.2.1 k) i v), σ.2.2)
def stC (σ : XS) (k1 k2 sp dp n : Nat) : XS := (σ.1, va_up σ.2.1 k2 (va_cpy (σ.2.1 k1) (σ.2.1 k2) sp dp n), σ.2.2)
def stL (σ : XS) (k i : Nat) (v : Int64) : XS := (σ.1, σ.2.1, va_up σ.2.2 k (vp_updL (σ.2.2 k) i v))
-- what stays: numbers of classes and slots, addresses, the classes of the arrays, the number of blocks, what lies beside
abbrev KX : Type := va_G × (Nat → Nat) × (Nat → ClassId) × Nat × va_W × List (ClassId × FieldType)
def kD (K : KX) : va_G := K.1
def ka (K : KX) : Nat → Nat := K.2.1
def kc (K : KX) : Nat → ClassId := K.2.2.1
def kn (K : KX) : Nat := K.2.2.2.1
def kE (K : KX) : va_W := K.2.2.2.2.1
def kT (K : KX) : List (ClassId × FieldType) := K.2.2.2.2.2
def KP (K : KX) (q : Nat) (sd : Int32) : KX := (K.1, K.2.1, K.2.2.1, K.2.2.2.1, (q, .inr (9, [.int sd])) :: kE K, kT K)

def wX (K : KX) (σ : XS) : va_W := [(ka K 0, .inr (0, [.ref (ka K 1), .ref (ka K 3), .ref (ka K 4), .ref (ka K 5), .ref (ka K 6), .ref (ka K 7), .ref (ka K 9), .ref (ka K 10), .ref (ka K 16), .int (σ.1 0), .int (σ.1 1)])),
  (ka K 1, .inr (1, [.ref (ka K 2)])),
  (ka K 2, .inl (kc K 0, (kn K * 1024), .inl (σ.2.1 0))),
  (ka K 3, .inr (2, [.int (Int32.ofNat (kn K)), .int (σ.1 2), .int (σ.1 3), .int (σ.1 4)])),
  (ka K 4, .inr (3, [.ref (ka K 1), .ref (ka K 3), .int (2 : Int32), .int (12 : Int32), .int (12 : Int32), .int (σ.1 5)])),
  (ka K 5, .inr (3, [.ref (ka K 1), .ref (ka K 3), .int (3 : Int32), .int (16 : Int32), .int (14 : Int32), .int (σ.1 6)])),
  (ka K 6, .inr (4, [.ref (ka K 1), .ref (ka K 3), .ref (ka K 4)])),
  (ka K 7, .inr (5, [.ref (ka K 1), .ref (ka K 6), .ref (ka K 8), .int (σ.1 7)])),
  (ka K 8, .inl (kc K 1, 2578, .inl (σ.2.1 1))),
  (ka K 9, .inr (6, [.ref (ka K 3), .ref (ka K 4), .ref (ka K 5), .ref (ka K 6)])),
  (ka K 10, .inr (7, [.ref (ka K 1), .ref (ka K 3), .ref (ka K 4), .ref (ka K 5), .ref (ka K 6), .ref (ka K 7), .ref (ka K 9), .ref (ka K 11), .ref (ka K 13), .ref (ka K 14), .ref (ka K 15)])),
  (ka K 11, .inr (1, [.ref (ka K 12)])),
  (ka K 12, .inl (kc K 2, 2048, .inl (σ.2.1 2))),
  (ka K 13, .inl (kc K 3, kn K, .inl (σ.2.1 3))),
  (ka K 14, .inl (kc K 4, 2065, .inl (σ.2.1 4))),
  (ka K 15, .inl (kc K 5, 2065, .inl (σ.2.1 5))),
  (ka K 16, .inr (8, [.ref (ka K 17), .ref (ka K 18), .int (σ.1 8)])),
  (ka K 17, .inl (kc K 6, 4096, .inl (σ.2.1 6))),
  (ka K 18, .inl (kc K 7, 20, .inl (σ.2.1 7)))] ++ kE K
theorem aX_0 (K : KX) (σ : XS) : (wX K σ)[0]? = some (ka K 0, .inr (0, [.ref (ka K 1), .ref (ka K 3), .ref (ka K 4), .ref (ka K 5), .ref (ka K 6), .ref (ka K 7), .ref (ka K 9), .ref (ka K 10), .ref (ka K 16), .int (σ.1 0), .int (σ.1 1)])) := rfl
theorem sSX_0 (K : KX) (σ : XS) (v : Int32) : (wX K σ).set 0 (ka K 0, .inr (0, [.ref (ka K 1), .ref (ka K 3), .ref (ka K 4), .ref (ka K 5), .ref (ka K 6), .ref (ka K 7), .ref (ka K 9), .ref (ka K 10), .ref (ka K 16), .int (σ.1 0), .int (σ.1 1)].set 9 (.int v))) = wX K (stS σ 0 v) := rfl
theorem sSX_1 (K : KX) (σ : XS) (v : Int32) : (wX K σ).set 0 (ka K 0, .inr (0, [.ref (ka K 1), .ref (ka K 3), .ref (ka K 4), .ref (ka K 5), .ref (ka K 6), .ref (ka K 7), .ref (ka K 9), .ref (ka K 10), .ref (ka K 16), .int (σ.1 0), .int (σ.1 1)].set 10 (.int v))) = wX K (stS σ 1 v) := rfl
theorem aX_1 (K : KX) (σ : XS) : (wX K σ)[1]? = some (ka K 1, .inr (1, [.ref (ka K 2)])) := rfl
theorem aX_2 (K : KX) (σ : XS) : (wX K σ)[2]? = some (ka K 2, .inl (kc K 0, (kn K * 1024), .inl (σ.2.1 0))) := rfl
theorem sAX_0 (K : KX) (σ : XS) (f : Nat → Int32) : (wX K σ).set 2 (ka K 2, .inl (kc K 0, (kn K * 1024), .inl f)) = wX K (σ.1, va_up σ.2.1 0 f, σ.2.2) := rfl
theorem aX_3 (K : KX) (σ : XS) : (wX K σ)[3]? = some (ka K 3, .inr (2, [.int (Int32.ofNat (kn K)), .int (σ.1 2), .int (σ.1 3), .int (σ.1 4)])) := rfl
theorem sSX_2 (K : KX) (σ : XS) (v : Int32) : (wX K σ).set 3 (ka K 3, .inr (2, [.int (Int32.ofNat (kn K)), .int (σ.1 2), .int (σ.1 3), .int (σ.1 4)].set 1 (.int v))) = wX K (stS σ 2 v) := rfl
theorem sSX_3 (K : KX) (σ : XS) (v : Int32) : (wX K σ).set 3 (ka K 3, .inr (2, [.int (Int32.ofNat (kn K)), .int (σ.1 2), .int (σ.1 3), .int (σ.1 4)].set 2 (.int v))) = wX K (stS σ 3 v) := rfl
theorem sSX_4 (K : KX) (σ : XS) (v : Int32) : (wX K σ).set 3 (ka K 3, .inr (2, [.int (Int32.ofNat (kn K)), .int (σ.1 2), .int (σ.1 3), .int (σ.1 4)].set 3 (.int v))) = wX K (stS σ 4 v) := rfl
theorem aX_4 (K : KX) (σ : XS) : (wX K σ)[4]? = some (ka K 4, .inr (3, [.ref (ka K 1), .ref (ka K 3), .int (2 : Int32), .int (12 : Int32), .int (12 : Int32), .int (σ.1 5)])) := rfl
theorem sSX_5 (K : KX) (σ : XS) (v : Int32) : (wX K σ).set 4 (ka K 4, .inr (3, [.ref (ka K 1), .ref (ka K 3), .int (2 : Int32), .int (12 : Int32), .int (12 : Int32), .int (σ.1 5)].set 5 (.int v))) = wX K (stS σ 5 v) := rfl
theorem aX_5 (K : KX) (σ : XS) : (wX K σ)[5]? = some (ka K 5, .inr (3, [.ref (ka K 1), .ref (ka K 3), .int (3 : Int32), .int (16 : Int32), .int (14 : Int32), .int (σ.1 6)])) := rfl
theorem sSX_6 (K : KX) (σ : XS) (v : Int32) : (wX K σ).set 5 (ka K 5, .inr (3, [.ref (ka K 1), .ref (ka K 3), .int (3 : Int32), .int (16 : Int32), .int (14 : Int32), .int (σ.1 6)].set 5 (.int v))) = wX K (stS σ 6 v) := rfl
theorem aX_6 (K : KX) (σ : XS) : (wX K σ)[6]? = some (ka K 6, .inr (4, [.ref (ka K 1), .ref (ka K 3), .ref (ka K 4)])) := rfl
theorem aX_7 (K : KX) (σ : XS) : (wX K σ)[7]? = some (ka K 7, .inr (5, [.ref (ka K 1), .ref (ka K 6), .ref (ka K 8), .int (σ.1 7)])) := rfl
theorem sSX_7 (K : KX) (σ : XS) (v : Int32) : (wX K σ).set 7 (ka K 7, .inr (5, [.ref (ka K 1), .ref (ka K 6), .ref (ka K 8), .int (σ.1 7)].set 3 (.int v))) = wX K (stS σ 7 v) := rfl
theorem aX_8 (K : KX) (σ : XS) : (wX K σ)[8]? = some (ka K 8, .inl (kc K 1, 2578, .inl (σ.2.1 1))) := rfl
theorem sAX_1 (K : KX) (σ : XS) (f : Nat → Int32) : (wX K σ).set 8 (ka K 8, .inl (kc K 1, 2578, .inl f)) = wX K (σ.1, va_up σ.2.1 1 f, σ.2.2) := rfl
theorem aX_9 (K : KX) (σ : XS) : (wX K σ)[9]? = some (ka K 9, .inr (6, [.ref (ka K 3), .ref (ka K 4), .ref (ka K 5), .ref (ka K 6)])) := rfl
theorem aX_10 (K : KX) (σ : XS) : (wX K σ)[10]? = some (ka K 10, .inr (7, [.ref (ka K 1), .ref (ka K 3), .ref (ka K 4), .ref (ka K 5), .ref (ka K 6), .ref (ka K 7), .ref (ka K 9), .ref (ka K 11), .ref (ka K 13), .ref (ka K 14), .ref (ka K 15)])) := rfl
theorem aX_11 (K : KX) (σ : XS) : (wX K σ)[11]? = some (ka K 11, .inr (1, [.ref (ka K 12)])) := rfl
theorem aX_12 (K : KX) (σ : XS) : (wX K σ)[12]? = some (ka K 12, .inl (kc K 2, 2048, .inl (σ.2.1 2))) := rfl
theorem sAX_2 (K : KX) (σ : XS) (f : Nat → Int32) : (wX K σ).set 12 (ka K 12, .inl (kc K 2, 2048, .inl f)) = wX K (σ.1, va_up σ.2.1 2 f, σ.2.2) := rfl
theorem aX_13 (K : KX) (σ : XS) : (wX K σ)[13]? = some (ka K 13, .inl (kc K 3, kn K, .inl (σ.2.1 3))) := rfl
theorem sAX_3 (K : KX) (σ : XS) (f : Nat → Int32) : (wX K σ).set 13 (ka K 13, .inl (kc K 3, kn K, .inl f)) = wX K (σ.1, va_up σ.2.1 3 f, σ.2.2) := rfl
theorem aX_14 (K : KX) (σ : XS) : (wX K σ)[14]? = some (ka K 14, .inl (kc K 4, 2065, .inl (σ.2.1 4))) := rfl
theorem sAX_4 (K : KX) (σ : XS) (f : Nat → Int32) : (wX K σ).set 14 (ka K 14, .inl (kc K 4, 2065, .inl f)) = wX K (σ.1, va_up σ.2.1 4 f, σ.2.2) := rfl
theorem aX_15 (K : KX) (σ : XS) : (wX K σ)[15]? = some (ka K 15, .inl (kc K 5, 2065, .inl (σ.2.1 5))) := rfl
theorem sAX_5 (K : KX) (σ : XS) (f : Nat → Int32) : (wX K σ).set 15 (ka K 15, .inl (kc K 5, 2065, .inl f)) = wX K (σ.1, va_up σ.2.1 5 f, σ.2.2) := rfl
theorem aX_16 (K : KX) (σ : XS) : (wX K σ)[16]? = some (ka K 16, .inr (8, [.ref (ka K 17), .ref (ka K 18), .int (σ.1 8)])) := rfl
theorem sSX_8 (K : KX) (σ : XS) (v : Int32) : (wX K σ).set 16 (ka K 16, .inr (8, [.ref (ka K 17), .ref (ka K 18), .int (σ.1 8)].set 2 (.int v))) = wX K (stS σ 8 v) := rfl
theorem aX_17 (K : KX) (σ : XS) : (wX K σ)[17]? = some (ka K 17, .inl (kc K 6, 4096, .inl (σ.2.1 6))) := rfl
theorem sAX_6 (K : KX) (σ : XS) (f : Nat → Int32) : (wX K σ).set 17 (ka K 17, .inl (kc K 6, 4096, .inl f)) = wX K (σ.1, va_up σ.2.1 6 f, σ.2.2) := rfl
theorem aX_18 (K : KX) (σ : XS) : (wX K σ)[18]? = some (ka K 18, .inl (kc K 7, 20, .inl (σ.2.1 7))) := rfl
theorem sAX_7 (K : KX) (σ : XS) (f : Nat → Int32) : (wX K σ).set 18 (ka K 18, .inl (kc K 7, 20, .inl f)) = wX K (σ.1, va_up σ.2.1 7 f, σ.2.2) := rfl
def tyX (K : KX) : List (ClassId × FieldType) := [(kc K 0, .byte), (kc K 1, .int), (kc K 2, .byte), (kc K 3, .byte), (kc K 4, .int), (kc K 5, .int), (kc K 6, .byte), (kc K 7, .byte)] ++ kT K
theorem gw_ne {x : Int32} {k : Int} (y : Int32) (hy : y.toInt = k) (h : ¬ x = y) : x.toInt ≠ k := fun e => h (Int32.toInt_inj.mp (e.trans hy.symm))
