-- the state: numbers and rows of numbers
abbrev XS : Type := (Nat → Int32) × (Nat → Nat → Int32) × (Nat → Nat → Int64)
def stS (σ : XS) (k : Nat) (v : Int32) : XS := (upd σ.1 k v, σ.2)
def stA (σ : XS) (k i : Nat) (v : Int32) : XS := (σ.1, va_up σ.2.1 k (upd (σ.2.1 k) i v), σ.2.2)
def stC (σ : XS) (k1 k2 sp dp n : Nat) : XS := (σ.1, va_up σ.2.1 k2 (va_cpy (σ.2.1 k1) (σ.2.1 k2) sp dp n), σ.2.2)
def stL (σ : XS) (k i : Nat) (v : Int64) : XS := (σ.1, σ.2.1, va_up σ.2.2 k (vp_updL (σ.2.2 k) i v))
-- what stays: numbers of classes and slots, addresses, the classes of the arrays, the number of blocks, what lies beside
abbrev KX : Type := va_G × (Nat → Nat) × (Nat → ClassId) × Nat × va_W × List (ClassId × FieldType)
def kD (K : KX) : va_G := K.1
def ka (K : KX) : Nat → Nat := K.2.1
def kc (K : KX) : Nat → ClassId := K.2.2.1
def kn (K : KX) : Nat := K.2.2.2.1
def kE (K : KX) : va_W := K.2.2.2.2.1
def kT (K : KX) : List (ClassId × FieldType) := K.2.2.2.2.2
def KP (K : KX) (q : Nat) (sd : Int32) : KX := (K.1, K.2.1, K.2.2.1, K.2.2.2.1, (q, .inr (9, [.int sd])) :: kE K, kT K)

def wX (K : KX) (σ : XS) : va_W := [(ka K 0, .inr (0, [.ref (ka K 1), .ref (ka K 3), .ref (ka K 4), .ref (ka K 5), .ref (ka K 6), .ref (ka K 7), .ref (ka K 9), .ref (ka K 10), .ref (ka K 16), .int (σ.1 0), .int (σ.1 1)])),
  (ka K 1, .inr (1, [.ref (ka K 2)])),
  (ka K 2, .inl (kc K 0, (kn K * 1024), .inl (σ.2.1 0))),
  (ka K 3, .inr (2, [.int (Int32.ofNat (kn K)), .int (σ.1 2), .int (σ.1 3), .int (σ.1 4)])),
  (ka K 4, .inr (3, [.ref (ka K 1), .ref (ka K 3), .int (2 : Int32), .int (12 : Int32), .int (12 : Int32), .int (σ.1 5)])),
  (ka K 5, .inr (3, [.ref (ka K 1), .ref (ka K 3), .int (3 : Int32), .int (16 : Int32), .int (14 : Int32), .int (σ.1 6)])),
  (ka K 6, .inr (4, [.ref (ka K 1), .ref (ka K 3), .ref (ka K 4)])),
  (ka K 7, .inr (5, [.ref (ka K 1), .ref (ka K 6), .ref (ka K 8), .int (σ.1 7)])),
  (ka K 8, .inl (kc K 1, 2578, .inl (σ.2.1 1))),
  (ka K 9, .inr (6, [.ref (ka K 3), .ref (ka K 4), .ref (ka K 5), .ref (ka K 6)])),
  (ka K 10, .inr (7, [.ref (ka K 1), .ref (ka K 3), .ref (ka K 4), .ref (ka K 5), .ref (ka K 6), .ref (ka K 7), .ref (ka K 9), .ref (ka K 11), .ref (ka K 13), .ref (ka K 14), .ref (ka K 15)])),
  (ka K 11, .inr (1, [.ref (ka K 12)])),
  (ka K 12, .inl (kc K 2, 2048, .inl (σ.2.1 2))),
  (ka K 13, .inl (kc K 3, kn K, .inl (σ.2.1 3))),
  (ka K 14, .inl (kc K 4, 2065, .inl (σ.2.1 4))),
  (ka K 15, .inl (kc K 5, 2065, .inl (σ.2.1 5))),
  (ka K 16, .inr (8, [.ref (ka K 17), .ref (ka K 18), .int (σ.1 8)])),
  (ka K 17, .inl (kc K 6, 4096, .inl (σ.2.1 6))),
  (ka K 18, .inl (kc K 7, 20, .inl (σ.2.1 7)))] ++ kE K
theorem aX_0 (K : KX) (σ : XS) : (wX K σ)[0]? = some (ka K 0, .inr (0, [.ref (ka K 1), .ref (ka K 3), .ref (ka K 4), .ref (ka K 5), .ref (ka K 6), .ref (ka K 7), .ref (ka K 9), .ref (ka K 10), .ref (ka K 16), .int (σ.1 0), .int (σ.1 1)])) := rfl
theorem sSX_0 (K : KX) (σ : XS) (v : Int32) : (wX K σ).set 0 (ka K 0, .inr (0, [.ref (ka K 1), .ref (ka K 3), .ref (ka K 4), .ref (ka K 5), .ref (ka K 6), .ref (ka K 7), .ref (ka K 9), .ref (ka K 10), .ref (ka K 16), .int (σ.1 0), .int (σ.1 1)].set 9 (.int v))) = wX K (stS σ 0 v) := rfl
theorem sSX_1 (K : KX) (σ : XS) (v : Int32) : (wX K σ).set 0 (ka K 0, .inr (0, [.ref (ka K 1), .ref (ka K 3), .ref (ka K 4), .ref (ka K 5), .ref (ka K 6), .ref (ka K 7), .ref (ka K 9), .ref (ka K 10), .ref (ka K 16), .int (σ.1 0), .int (σ.1 1)].set 10 (.int v))) = wX K (stS σ 1 v) := rfl
theorem aX_1 (K : KX) (σ : XS) : (wX K σ)[1]? = some (ka K 1, .inr (1, [.ref (ka K 2)])) := rfl
theorem aX_2 (K : KX) (σ : XS) : (wX K σ)[2]? = some (ka K 2, .inl (kc K 0, (kn K * 1024), .inl (σ.2.1 0))) := rfl
theorem sAX_0 (K : KX) (σ : XS) (f : Nat → Int32) : (wX K σ).set 2 (ka K 2, .inl (kc K 0, (kn K * 1024), .inl f)) = wX K (σ.1, va_up σ.2.1 0 f, σ.2.2) := rfl
theorem aX_3 (K : KX) (σ : XS) : (wX K σ)[3]? = some (ka K 3, .inr (2, [.int (Int32.ofNat (kn K)), .int (σ.1 2), .int (σ.1 3), .int (σ.1 4)])) := rfl
theorem sSX_2 (K : KX) (σ : XS) (v : Int32) : (wX K σ).set 3 (ka K 3, .inr (2, [.int (Int32.ofNat (kn K)), .int (σ.1 2), .int (σ.1 3), .int (σ.1 4)].set 1 (.int v))) = wX K (stS σ 2 v) := rfl
theorem sSX_3 (K : KX) (σ : XS) (v : Int32) : (wX K σ).set 3 (ka K 3, .inr (2, [.int (Int32.ofNat (kn K)), .int (σ.1 2), .int (σ.1 3), .int (σ.1 4)].set 2 (.int v))) = wX K (stS σ 3 v) := rfl
theorem sSX_4 (K : KX) (σ : XS) (v : Int32) : (wX K σ).set 3 (ka K 3, .inr (2, [.int (Int32.ofNat (kn K)), .int (σ.1 2), .int (σ.1 3), .int (σ.1 4)].set 3 (.int v))) = wX K (stS σ 4 v) := rfl
theorem aX_4 (K : KX) (σ : XS) : (wX K σ)[4]? = some (ka K 4, .inr (3, [.ref (ka K 1), .ref (ka K 3), .int (2 : Int32), .int (12 : Int32), .int (12 : Int32), .int (σ.1 5)])) := rfl
theorem sSX_5 (K : KX) (σ : XS) (v : Int32) : (wX K σ).set 4 (ka K 4, .inr (3, [.ref (ka K 1), .ref (ka K 3), .int (2 : Int32), .int (12 : Int32), .int (12 : Int32), .int (σ.1 5)].set 5 (.int v))) = wX K (stS σ 5 v) := rfl
theorem aX_5 (K : KX) (σ : XS) : (wX K σ)[5]? = some (ka K 5, .inr (3, [.ref (ka K 1), .ref (ka K 3), .int (3 : Int32), .int (16 : Int32), .int (14 : Int32), .int (σ.1 6)])) := rfl
theorem sSX_6 (K : KX) (σ : XS) (v : Int32) : (wX K σ).set 5 (ka K 5, .inr (3, [.ref (ka K 1), .ref (ka K 3), .int (3 : Int32), .int (16 : Int32), .int (14 : Int32), .int (σ.1 6)].set 5 (.int v))) = wX K (stS σ 6 v) := rfl
theorem aX_6 (K : KX) (σ : XS) : (wX K σ)[6]? = some (ka K 6, .inr (4, [.ref (ka K 1), .ref (ka K 3), .ref (ka K 4)])) := rfl
theorem aX_7 (K : KX) (σ : XS) : (wX K σ)[7]? = some (ka K 7, .inr (5, [.ref (ka K 1), .ref (ka K 6), .ref (ka K 8), .int (σ.1 7)])) := rfl
theorem sSX_7 (K : KX) (σ : XS) (v : Int32) : (wX K σ).set 7 (ka K 7, .inr (5, [.ref (ka K 1), .ref (ka K 6), .ref (ka K 8), .int (σ.1 7)].set 3 (.int v))) = wX K (stS σ 7 v) := rfl
theorem aX_8 (K : KX) (σ : XS) : (wX K σ)[8]? = some (ka K 8, .inl (kc K 1, 2578, .inl (σ.2.1 1))) := rfl
theorem sAX_1 (K : KX) (σ : XS) (f : Nat → Int32) : (wX K σ).set 8 (ka K 8, .inl (kc K 1, 2578, .inl f)) = wX K (σ.1, va_up σ.2.1 1 f, σ.2.2) := rfl
theorem aX_9 (K : KX) (σ : XS) : (wX K σ)[9]? = some (ka K 9, .inr (6, [.ref (ka K 3), .ref (ka K 4), .ref (ka K 5), .ref (ka K 6)])) := rfl
theorem aX_10 (K : KX) (σ : XS) : (wX K σ)[10]? = some (ka K 10, .inr (7, [.ref (ka K 1), .ref (ka K 3), .ref (ka K 4), .ref (ka K 5), .ref (ka K 6), .ref (ka K 7), .ref (ka K 9), .ref (ka K 11), .ref (ka K 13), .ref (ka K 14), .ref (ka K 15)])) := rfl
theorem aX_11 (K : KX) (σ : XS) : (wX K σ)[11]? = some (ka K 11, .inr (1, [.ref (ka K 12)])) := rfl
theorem aX_12 (K : KX) (σ : XS) : (wX K σ)[12]? = some (ka K 12, .inl (kc K 2, 2048, .inl (σ.2.1 2))) := rfl
theorem sAX_2 (K : KX) (σ : XS) (f : Nat → Int32) : (wX K σ).set 12 (ka K 12, .inl (kc K 2, 2048, .inl f)) = wX K (σ.1, va_up σ.2.1 2 f, σ.2.2) := rfl
theorem aX_13 (K : KX) (σ : XS) : (wX K σ)[13]? = some (ka K 13, .inl (kc K 3, kn K, .inl (σ.2.1 3))) := rfl
theorem sAX_3 (K : KX) (σ : XS) (f : Nat → Int32) : (wX K σ).set 13 (ka K 13, .inl (kc K 3, kn K, .inl f)) = wX K (σ.1, va_up σ.2.1 3 f, σ.2.2) := rfl
theorem aX_14 (K : KX) (σ : XS) : (wX K σ)[14]? = some (ka K 14, .inl (kc K 4, 2065, .inl (σ.2.1 4))) := rfl
theorem sAX_4 (K : KX) (σ : XS) (f : Nat → Int32) : (wX K σ).set 14 (ka K 14, .inl (kc K 4, 2065, .inl f)) = wX K (σ.1, va_up σ.2.1 4 f, σ.2.2) := rfl
theorem aX_15 (K : KX) (σ : XS) : (wX K σ)[15]? = some (ka K 15, .inl (kc K 5, 2065, .inl (σ.2.1 5))) := rfl
theorem sAX_5 (K : KX) (σ : XS) (f : Nat → Int32) : (wX K σ).set 15 (ka K 15, .inl (kc K 5, 2065, .inl f)) = wX K (σ.1, va_up σ.2.1 5 f, σ.2.2) := rfl
theorem aX_16 (K : KX) (σ : XS) : (wX K σ)[16]? = some (ka K 16, .inr (8, [.ref (ka K 17), .ref (ka K 18), .int (σ.1 8)])) := rfl
theorem sSX_8 (K : KX) (σ : XS) (v : Int32) : (wX K σ).set 16 (ka K 16, .inr (8, [.ref (ka K 17), .ref (ka K 18), .int (σ.1 8)].set 2 (.int v))) = wX K (stS σ 8 v) := rfl
theorem aX_17 (K : KX) (σ : XS) : (wX K σ)[17]? = some (ka K 17, .inl (kc K 6, 4096, .inl (σ.2.1 6))) := rfl
theorem sAX_6 (K : KX) (σ : XS) (f : Nat → Int32) : (wX K σ).set 17 (ka K 17, .inl (kc K 6, 4096, .inl f)) = wX K (σ.1, va_up σ.2.1 6 f, σ.2.2) := rfl
theorem aX_18 (K : KX) (σ : XS) : (wX K σ)[18]? = some (ka K 18, .inl (kc K 7, 20, .inl (σ.2.1 7))) := rfl
theorem sAX_7 (K : KX) (σ : XS) (f : Nat → Int32) : (wX K σ).set 18 (ka K 18, .inl (kc K 7, 20, .inl f)) = wX K (σ.1, va_up σ.2.1 7 f, σ.2.2) := rfl
def tyX (K : KX) : List (ClassId × FieldType) := [(kc K 0, .byte), (kc K 1, .int), (kc K 2, .byte), (kc K 3, .byte), (kc K 4, .int), (kc K 5, .int), (kc K 6, .byte), (kc K 7, .byte)] ++ kT K
def wM (K : KX) (σ : XS) : va_W := [(ka K 0, .inr (10, [.int (σ.1 0), .int (Int32.ofNat (kn K)), .ref (ka K 1), .ref (ka K 2), .ref (ka K 3), .ref (ka K 4), .int (σ.1 1), .int (σ.1 2), .int (σ.1 3), .int (σ.1 4), .int (σ.1 5), .int (σ.1 6), .int (σ.1 7), .int (σ.1 8), .ref (ka K 5), .ref (ka K 6), .ref (ka K 7), .ref (ka K 8), .ref (ka K 9), .ref (ka K 10), .ref (ka K 11), .ref (ka K 12), .ref (ka K 13), .ref (ka K 14), .ref (ka K 15), .ref (ka K 16), .ref (ka K 17), .int (σ.1 9), .int (σ.1 10), .int (σ.1 11), .ref (ka K 18), .int (σ.1 12), .int (σ.1 13)])),
  (ka K 1, .inl (kc K 0, 524288, .inl (σ.2.1 0))),
  (ka K 2, .inl (kc K 1, 524288, .inl (σ.2.1 1))),
  (ka K 3, .inl (kc K 2, 4096, .inl (σ.2.1 2))),
  (ka K 4, .inl (kc K 3, 20, .inl (σ.2.1 3))),
  (ka K 5, .inl (kc K 4, 512, .inl (σ.2.1 4))),
  (ka K 6, .inl (kc K 5, 512, .inl (σ.2.1 5))),
  (ka K 7, .inl (kc K 6, 2100, .inl (σ.2.1 6))),
  (ka K 8, .inl (kc K 7, 2100, .inl (σ.2.1 7))),
  (ka K 9, .inl (kc K 8, 2100, .inl (σ.2.1 8))),
  (ka K 10, .inl (kc K 9, 2100, .inl (σ.2.1 9))),
  (ka K 11, .inl (kc K 10, 2100, .inl (σ.2.1 10))),
  (ka K 12, .inl (kc K 11, 2100, .inl (σ.2.1 11))),
  (ka K 13, .inl (kc K 12, 2100, .inl (σ.2.1 12))),
  (ka K 14, .inl (kc K 13, 2100, .inl (σ.2.1 13))),
  (ka K 15, .inl (kc K 14, 2100, .inl (σ.2.1 14))),
  (ka K 16, .inl (kc K 15, 2100, .inl (σ.2.1 15))),
  (ka K 17, .inl (kc K 16, 6300, .inr (.inl (σ.2.2 0)))),
  (ka K 18, .inl (kc K 17, 255, .inl (σ.2.1 17)))] ++ kE K
theorem aM_0 (K : KX) (σ : XS) : (wM K σ)[0]? = some (ka K 0, .inr (10, [.int (σ.1 0), .int (Int32.ofNat (kn K)), .ref (ka K 1), .ref (ka K 2), .ref (ka K 3), .ref (ka K 4), .int (σ.1 1), .int (σ.1 2), .int (σ.1 3), .int (σ.1 4), .int (σ.1 5), .int (σ.1 6), .int (σ.1 7), .int (σ.1 8), .ref (ka K 5), .ref (ka K 6), .ref (ka K 7), .ref (ka K 8), .ref (ka K 9), .ref (ka K 10), .ref (ka K 11), .ref (ka K 12), .ref (ka K 13), .ref (ka K 14), .ref (ka K 15), .ref (ka K 16), .ref (ka K 17), .int (σ.1 9), .int (σ.1 10), .int (σ.1 11), .ref (ka K 18), .int (σ.1 12), .int (σ.1 13)])) := rfl
theorem sSM_0 (K : KX) (σ : XS) (v : Int32) : (wM K σ).set 0 (ka K 0, .inr (10, [.int (σ.1 0), .int (Int32.ofNat (kn K)), .ref (ka K 1), .ref (ka K 2), .ref (ka K 3), .ref (ka K 4), .int (σ.1 1), .int (σ.1 2), .int (σ.1 3), .int (σ.1 4), .int (σ.1 5), .int (σ.1 6), .int (σ.1 7), .int (σ.1 8), .ref (ka K 5), .ref (ka K 6), .ref (ka K 7), .ref (ka K 8), .ref (ka K 9), .ref (ka K 10), .ref (ka K 11), .ref (ka K 12), .ref (ka K 13), .ref (ka K 14), .ref (ka K 15), .ref (ka K 16), .ref (ka K 17), .int (σ.1 9), .int (σ.1 10), .int (σ.1 11), .ref (ka K 18), .int (σ.1 12), .int (σ.1 13)].set 0 (.int v))) = wM K (stS σ 0 v) := rfl
theorem sSM_1 (K : KX) (σ : XS) (v : Int32) : (wM K σ).set 0 (ka K 0, .inr (10, [.int (σ.1 0), .int (Int32.ofNat (kn K)), .ref (ka K 1), .ref (ka K 2), .ref (ka K 3), .ref (ka K 4), .int (σ.1 1), .int (σ.1 2), .int (σ.1 3), .int (σ.1 4), .int (σ.1 5), .int (σ.1 6), .int (σ.1 7), .int (σ.1 8), .ref (ka K 5), .ref (ka K 6), .ref (ka K 7), .ref (ka K 8), .ref (ka K 9), .ref (ka K 10), .ref (ka K 11), .ref (ka K 12), .ref (ka K 13), .ref (ka K 14), .ref (ka K 15), .ref (ka K 16), .ref (ka K 17), .int (σ.1 9), .int (σ.1 10), .int (σ.1 11), .ref (ka K 18), .int (σ.1 12), .int (σ.1 13)].set 6 (.int v))) = wM K (stS σ 1 v) := rfl
theorem sSM_2 (K : KX) (σ : XS) (v : Int32) : (wM K σ).set 0 (ka K 0, .inr (10, [.int (σ.1 0), .int (Int32.ofNat (kn K)), .ref (ka K 1), .ref (ka K 2), .ref (ka K 3), .ref (ka K 4), .int (σ.1 1), .int (σ.1 2), .int (σ.1 3), .int (σ.1 4), .int (σ.1 5), .int (σ.1 6), .int (σ.1 7), .int (σ.1 8), .ref (ka K 5), .ref (ka K 6), .ref (ka K 7), .ref (ka K 8), .ref (ka K 9), .ref (ka K 10), .ref (ka K 11), .ref (ka K 12), .ref (ka K 13), .ref (ka K 14), .ref (ka K 15), .ref (ka K 16), .ref (ka K 17), .int (σ.1 9), .int (σ.1 10), .int (σ.1 11), .ref (ka K 18), .int (σ.1 12), .int (σ.1 13)].set 7 (.int v))) = wM K (stS σ 2 v) := rfl
theorem sSM_3 (K : KX) (σ : XS) (v : Int32) : (wM K σ).set 0 (ka K 0, .inr (10, [.int (σ.1 0), .int (Int32.ofNat (kn K)), .ref (ka K 1), .ref (ka K 2), .ref (ka K 3), .ref (ka K 4), .int (σ.1 1), .int (σ.1 2), .int (σ.1 3), .int (σ.1 4), .int (σ.1 5), .int (σ.1 6), .int (σ.1 7), .int (σ.1 8), .ref (ka K 5), .ref (ka K 6), .ref (ka K 7), .ref (ka K 8), .ref (ka K 9), .ref (ka K 10), .ref (ka K 11), .ref (ka K 12), .ref (ka K 13), .ref (ka K 14), .ref (ka K 15), .ref (ka K 16), .ref (ka K 17), .int (σ.1 9), .int (σ.1 10), .int (σ.1 11), .ref (ka K 18), .int (σ.1 12), .int (σ.1 13)].set 8 (.int v))) = wM K (stS σ 3 v) := rfl
theorem sSM_4 (K : KX) (σ : XS) (v : Int32) : (wM K σ).set 0 (ka K 0, .inr (10, [.int (σ.1 0), .int (Int32.ofNat (kn K)), .ref (ka K 1), .ref (ka K 2), .ref (ka K 3), .ref (ka K 4), .int (σ.1 1), .int (σ.1 2), .int (σ.1 3), .int (σ.1 4), .int (σ.1 5), .int (σ.1 6), .int (σ.1 7), .int (σ.1 8), .ref (ka K 5), .ref (ka K 6), .ref (ka K 7), .ref (ka K 8), .ref (ka K 9), .ref (ka K 10), .ref (ka K 11), .ref (ka K 12), .ref (ka K 13), .ref (ka K 14), .ref (ka K 15), .ref (ka K 16), .ref (ka K 17), .int (σ.1 9), .int (σ.1 10), .int (σ.1 11), .ref (ka K 18), .int (σ.1 12), .int (σ.1 13)].set 9 (.int v))) = wM K (stS σ 4 v) := rfl
theorem sSM_5 (K : KX) (σ : XS) (v : Int32) : (wM K σ).set 0 (ka K 0, .inr (10, [.int (σ.1 0), .int (Int32.ofNat (kn K)), .ref (ka K 1), .ref (ka K 2), .ref (ka K 3), .ref (ka K 4), .int (σ.1 1), .int (σ.1 2), .int (σ.1 3), .int (σ.1 4), .int (σ.1 5), .int (σ.1 6), .int (σ.1 7), .int (σ.1 8), .ref (ka K 5), .ref (ka K 6), .ref (ka K 7), .ref (ka K 8), .ref (ka K 9), .ref (ka K 10), .ref (ka K 11), .ref (ka K 12), .ref (ka K 13), .ref (ka K 14), .ref (ka K 15), .ref (ka K 16), .ref (ka K 17), .int (σ.1 9), .int (σ.1 10), .int (σ.1 11), .ref (ka K 18), .int (σ.1 12), .int (σ.1 13)].set 10 (.int v))) = wM K (stS σ 5 v) := rfl
theorem sSM_6 (K : KX) (σ : XS) (v : Int32) : (wM K σ).set 0 (ka K 0, .inr (10, [.int (σ.1 0), .int (Int32.ofNat (kn K)), .ref (ka K 1), .ref (ka K 2), .ref (ka K 3), .ref (ka K 4), .int (σ.1 1), .int (σ.1 2), .int (σ.1 3), .int (σ.1 4), .int (σ.1 5), .int (σ.1 6), .int (σ.1 7), .int (σ.1 8), .ref (ka K 5), .ref (ka K 6), .ref (ka K 7), .ref (ka K 8), .ref (ka K 9), .ref (ka K 10), .ref (ka K 11), .ref (ka K 12), .ref (ka K 13), .ref (ka K 14), .ref (ka K 15), .ref (ka K 16), .ref (ka K 17), .int (σ.1 9), .int (σ.1 10), .int (σ.1 11), .ref (ka K 18), .int (σ.1 12), .int (σ.1 13)].set 11 (.int v))) = wM K (stS σ 6 v) := rfl
theorem sSM_7 (K : KX) (σ : XS) (v : Int32) : (wM K σ).set 0 (ka K 0, .inr (10, [.int (σ.1 0), .int (Int32.ofNat (kn K)), .ref (ka K 1), .ref (ka K 2), .ref (ka K 3), .ref (ka K 4), .int (σ.1 1), .int (σ.1 2), .int (σ.1 3), .int (σ.1 4), .int (σ.1 5), .int (σ.1 6), .int (σ.1 7), .int (σ.1 8), .ref (ka K 5), .ref (ka K 6), .ref (ka K 7), .ref (ka K 8), .ref (ka K 9), .ref (ka K 10), .ref (ka K 11), .ref (ka K 12), .ref (ka K 13), .ref (ka K 14), .ref (ka K 15), .ref (ka K 16), .ref (ka K 17), .int (σ.1 9), .int (σ.1 10), .int (σ.1 11), .ref (ka K 18), .int (σ.1 12), .int (σ.1 13)].set 12 (.int v))) = wM K (stS σ 7 v) := rfl
theorem sSM_8 (K : KX) (σ : XS) (v : Int32) : (wM K σ).set 0 (ka K 0, .inr (10, [.int (σ.1 0), .int (Int32.ofNat (kn K)), .ref (ka K 1), .ref (ka K 2), .ref (ka K 3), .ref (ka K 4), .int (σ.1 1), .int (σ.1 2), .int (σ.1 3), .int (σ.1 4), .int (σ.1 5), .int (σ.1 6), .int (σ.1 7), .int (σ.1 8), .ref (ka K 5), .ref (ka K 6), .ref (ka K 7), .ref (ka K 8), .ref (ka K 9), .ref (ka K 10), .ref (ka K 11), .ref (ka K 12), .ref (ka K 13), .ref (ka K 14), .ref (ka K 15), .ref (ka K 16), .ref (ka K 17), .int (σ.1 9), .int (σ.1 10), .int (σ.1 11), .ref (ka K 18), .int (σ.1 12), .int (σ.1 13)].set 13 (.int v))) = wM K (stS σ 8 v) := rfl
theorem sSM_9 (K : KX) (σ : XS) (v : Int32) : (wM K σ).set 0 (ka K 0, .inr (10, [.int (σ.1 0), .int (Int32.ofNat (kn K)), .ref (ka K 1), .ref (ka K 2), .ref (ka K 3), .ref (ka K 4), .int (σ.1 1), .int (σ.1 2), .int (σ.1 3), .int (σ.1 4), .int (σ.1 5), .int (σ.1 6), .int (σ.1 7), .int (σ.1 8), .ref (ka K 5), .ref (ka K 6), .ref (ka K 7), .ref (ka K 8), .ref (ka K 9), .ref (ka K 10), .ref (ka K 11), .ref (ka K 12), .ref (ka K 13), .ref (ka K 14), .ref (ka K 15), .ref (ka K 16), .ref (ka K 17), .int (σ.1 9), .int (σ.1 10), .int (σ.1 11), .ref (ka K 18), .int (σ.1 12), .int (σ.1 13)].set 27 (.int v))) = wM K (stS σ 9 v) := rfl
theorem sSM_10 (K : KX) (σ : XS) (v : Int32) : (wM K σ).set 0 (ka K 0, .inr (10, [.int (σ.1 0), .int (Int32.ofNat (kn K)), .ref (ka K 1), .ref (ka K 2), .ref (ka K 3), .ref (ka K 4), .int (σ.1 1), .int (σ.1 2), .int (σ.1 3), .int (σ.1 4), .int (σ.1 5), .int (σ.1 6), .int (σ.1 7), .int (σ.1 8), .ref (ka K 5), .ref (ka K 6), .ref (ka K 7), .ref (ka K 8), .ref (ka K 9), .ref (ka K 10), .ref (ka K 11), .ref (ka K 12), .ref (ka K 13), .ref (ka K 14), .ref (ka K 15), .ref (ka K 16), .ref (ka K 17), .int (σ.1 9), .int (σ.1 10), .int (σ.1 11), .ref (ka K 18), .int (σ.1 12), .int (σ.1 13)].set 28 (.int v))) = wM K (stS σ 10 v) := rfl
theorem sSM_11 (K : KX) (σ : XS) (v : Int32) : (wM K σ).set 0 (ka K 0, .inr (10, [.int (σ.1 0), .int (Int32.ofNat (kn K)), .ref (ka K 1), .ref (ka K 2), .ref (ka K 3), .ref (ka K 4), .int (σ.1 1), .int (σ.1 2), .int (σ.1 3), .int (σ.1 4), .int (σ.1 5), .int (σ.1 6), .int (σ.1 7), .int (σ.1 8), .ref (ka K 5), .ref (ka K 6), .ref (ka K 7), .ref (ka K 8), .ref (ka K 9), .ref (ka K 10), .ref (ka K 11), .ref (ka K 12), .ref (ka K 13), .ref (ka K 14), .ref (ka K 15), .ref (ka K 16), .ref (ka K 17), .int (σ.1 9), .int (σ.1 10), .int (σ.1 11), .ref (ka K 18), .int (σ.1 12), .int (σ.1 13)].set 29 (.int v))) = wM K (stS σ 11 v) := rfl
theorem sSM_12 (K : KX) (σ : XS) (v : Int32) : (wM K σ).set 0 (ka K 0, .inr (10, [.int (σ.1 0), .int (Int32.ofNat (kn K)), .ref (ka K 1), .ref (ka K 2), .ref (ka K 3), .ref (ka K 4), .int (σ.1 1), .int (σ.1 2), .int (σ.1 3), .int (σ.1 4), .int (σ.1 5), .int (σ.1 6), .int (σ.1 7), .int (σ.1 8), .ref (ka K 5), .ref (ka K 6), .ref (ka K 7), .ref (ka K 8), .ref (ka K 9), .ref (ka K 10), .ref (ka K 11), .ref (ka K 12), .ref (ka K 13), .ref (ka K 14), .ref (ka K 15), .ref (ka K 16), .ref (ka K 17), .int (σ.1 9), .int (σ.1 10), .int (σ.1 11), .ref (ka K 18), .int (σ.1 12), .int (σ.1 13)].set 31 (.int v))) = wM K (stS σ 12 v) := rfl
theorem sSM_13 (K : KX) (σ : XS) (v : Int32) : (wM K σ).set 0 (ka K 0, .inr (10, [.int (σ.1 0), .int (Int32.ofNat (kn K)), .ref (ka K 1), .ref (ka K 2), .ref (ka K 3), .ref (ka K 4), .int (σ.1 1), .int (σ.1 2), .int (σ.1 3), .int (σ.1 4), .int (σ.1 5), .int (σ.1 6), .int (σ.1 7), .int (σ.1 8), .ref (ka K 5), .ref (ka K 6), .ref (ka K 7), .ref (ka K 8), .ref (ka K 9), .ref (ka K 10), .ref (ka K 11), .ref (ka K 12), .ref (ka K 13), .ref (ka K 14), .ref (ka K 15), .ref (ka K 16), .ref (ka K 17), .int (σ.1 9), .int (σ.1 10), .int (σ.1 11), .ref (ka K 18), .int (σ.1 12), .int (σ.1 13)].set 32 (.int v))) = wM K (stS σ 13 v) := rfl
theorem aM_1 (K : KX) (σ : XS) : (wM K σ)[1]? = some (ka K 1, .inl (kc K 0, 524288, .inl (σ.2.1 0))) := rfl
theorem sAM_0 (K : KX) (σ : XS) (f : Nat → Int32) : (wM K σ).set 1 (ka K 1, .inl (kc K 0, 524288, .inl f)) = wM K (σ.1, va_up σ.2.1 0 f, σ.2.2) := rfl
theorem aM_2 (K : KX) (σ : XS) : (wM K σ)[2]? = some (ka K 2, .inl (kc K 1, 524288, .inl (σ.2.1 1))) := rfl
theorem sAM_1 (K : KX) (σ : XS) (f : Nat → Int32) : (wM K σ).set 2 (ka K 2, .inl (kc K 1, 524288, .inl f)) = wM K (σ.1, va_up σ.2.1 1 f, σ.2.2) := rfl
theorem aM_3 (K : KX) (σ : XS) : (wM K σ)[3]? = some (ka K 3, .inl (kc K 2, 4096, .inl (σ.2.1 2))) := rfl
theorem sAM_2 (K : KX) (σ : XS) (f : Nat → Int32) : (wM K σ).set 3 (ka K 3, .inl (kc K 2, 4096, .inl f)) = wM K (σ.1, va_up σ.2.1 2 f, σ.2.2) := rfl
theorem aM_4 (K : KX) (σ : XS) : (wM K σ)[4]? = some (ka K 4, .inl (kc K 3, 20, .inl (σ.2.1 3))) := rfl
theorem sAM_3 (K : KX) (σ : XS) (f : Nat → Int32) : (wM K σ).set 4 (ka K 4, .inl (kc K 3, 20, .inl f)) = wM K (σ.1, va_up σ.2.1 3 f, σ.2.2) := rfl
theorem aM_5 (K : KX) (σ : XS) : (wM K σ)[5]? = some (ka K 5, .inl (kc K 4, 512, .inl (σ.2.1 4))) := rfl
theorem sAM_4 (K : KX) (σ : XS) (f : Nat → Int32) : (wM K σ).set 5 (ka K 5, .inl (kc K 4, 512, .inl f)) = wM K (σ.1, va_up σ.2.1 4 f, σ.2.2) := rfl
theorem aM_6 (K : KX) (σ : XS) : (wM K σ)[6]? = some (ka K 6, .inl (kc K 5, 512, .inl (σ.2.1 5))) := rfl
theorem sAM_5 (K : KX) (σ : XS) (f : Nat → Int32) : (wM K σ).set 6 (ka K 6, .inl (kc K 5, 512, .inl f)) = wM K (σ.1, va_up σ.2.1 5 f, σ.2.2) := rfl
theorem aM_7 (K : KX) (σ : XS) : (wM K σ)[7]? = some (ka K 7, .inl (kc K 6, 2100, .inl (σ.2.1 6))) := rfl
theorem sAM_6 (K : KX) (σ : XS) (f : Nat → Int32) : (wM K σ).set 7 (ka K 7, .inl (kc K 6, 2100, .inl f)) = wM K (σ.1, va_up σ.2.1 6 f, σ.2.2) := rfl
theorem aM_8 (K : KX) (σ : XS) : (wM K σ)[8]? = some (ka K 8, .inl (kc K 7, 2100, .inl (σ.2.1 7))) := rfl
theorem sAM_7 (K : KX) (σ : XS) (f : Nat → Int32) : (wM K σ).set 8 (ka K 8, .inl (kc K 7, 2100, .inl f)) = wM K (σ.1, va_up σ.2.1 7 f, σ.2.2) := rfl
theorem aM_9 (K : KX) (σ : XS) : (wM K σ)[9]? = some (ka K 9, .inl (kc K 8, 2100, .inl (σ.2.1 8))) := rfl
theorem sAM_8 (K : KX) (σ : XS) (f : Nat → Int32) : (wM K σ).set 9 (ka K 9, .inl (kc K 8, 2100, .inl f)) = wM K (σ.1, va_up σ.2.1 8 f, σ.2.2) := rfl
theorem aM_10 (K : KX) (σ : XS) : (wM K σ)[10]? = some (ka K 10, .inl (kc K 9, 2100, .inl (σ.2.1 9))) := rfl
theorem sAM_9 (K : KX) (σ : XS) (f : Nat → Int32) : (wM K σ).set 10 (ka K 10, .inl (kc K 9, 2100, .inl f)) = wM K (σ.1, va_up σ.2.1 9 f, σ.2.2) := rfl
theorem aM_11 (K : KX) (σ : XS) : (wM K σ)[11]? = some (ka K 11, .inl (kc K 10, 2100, .inl (σ.2.1 10))) := rfl
theorem sAM_10 (K : KX) (σ : XS) (f : Nat → Int32) : (wM K σ).set 11 (ka K 11, .inl (kc K 10, 2100, .inl f)) = wM K (σ.1, va_up σ.2.1 10 f, σ.2.2) := rfl
theorem aM_12 (K : KX) (σ : XS) : (wM K σ)[12]? = some (ka K 12, .inl (kc K 11, 2100, .inl (σ.2.1 11))) := rfl
theorem sAM_11 (K : KX) (σ : XS) (f : Nat → Int32) : (wM K σ).set 12 (ka K 12, .inl (kc K 11, 2100, .inl f)) = wM K (σ.1, va_up σ.2.1 11 f, σ.2.2) := rfl
theorem aM_13 (K : KX) (σ : XS) : (wM K σ)[13]? = some (ka K 13, .inl (kc K 12, 2100, .inl (σ.2.1 12))) := rfl
theorem sAM_12 (K : KX) (σ : XS) (f : Nat → Int32) : (wM K σ).set 13 (ka K 13, .inl (kc K 12, 2100, .inl f)) = wM K (σ.1, va_up σ.2.1 12 f, σ.2.2) := rfl
theorem aM_14 (K : KX) (σ : XS) : (wM K σ)[14]? = some (ka K 14, .inl (kc K 13, 2100, .inl (σ.2.1 13))) := rfl
theorem sAM_13 (K : KX) (σ : XS) (f : Nat → Int32) : (wM K σ).set 14 (ka K 14, .inl (kc K 13, 2100, .inl f)) = wM K (σ.1, va_up σ.2.1 13 f, σ.2.2) := rfl
theorem aM_15 (K : KX) (σ : XS) : (wM K σ)[15]? = some (ka K 15, .inl (kc K 14, 2100, .inl (σ.2.1 14))) := rfl
theorem sAM_14 (K : KX) (σ : XS) (f : Nat → Int32) : (wM K σ).set 15 (ka K 15, .inl (kc K 14, 2100, .inl f)) = wM K (σ.1, va_up σ.2.1 14 f, σ.2.2) := rfl
theorem aM_16 (K : KX) (σ : XS) : (wM K σ)[16]? = some (ka K 16, .inl (kc K 15, 2100, .inl (σ.2.1 15))) := rfl
theorem sAM_15 (K : KX) (σ : XS) (f : Nat → Int32) : (wM K σ).set 16 (ka K 16, .inl (kc K 15, 2100, .inl f)) = wM K (σ.1, va_up σ.2.1 15 f, σ.2.2) := rfl
theorem aM_17 (K : KX) (σ : XS) : (wM K σ)[17]? = some (ka K 17, .inl (kc K 16, 6300, .inr (.inl (σ.2.2 0)))) := rfl
theorem sAM_16 (K : KX) (σ : XS) (f : Nat → Int64) : (wM K σ).set 17 (ka K 17, .inl (kc K 16, 6300, .inr (.inl f))) = wM K (σ.1, σ.2.1, va_up σ.2.2 0 f) := rfl
theorem aM_18 (K : KX) (σ : XS) : (wM K σ)[18]? = some (ka K 18, .inl (kc K 17, 255, .inl (σ.2.1 17))) := rfl
theorem sAM_17 (K : KX) (σ : XS) (f : Nat → Int32) : (wM K σ).set 18 (ka K 18, .inl (kc K 17, 255, .inl f)) = wM K (σ.1, va_up σ.2.1 17 f, σ.2.2) := rfl
def tyM (K : KX) : List (ClassId × FieldType) := [(kc K 0, .byte), (kc K 1, .byte), (kc K 2, .byte), (kc K 3, .byte), (kc K 4, .boolean), (kc K 5, .int), (kc K 6, .int), (kc K 7, .int), (kc K 8, .int), (kc K 9, .int), (kc K 10, .int), (kc K 11, .int), (kc K 12, .int), (kc K 13, .int), (kc K 14, .int), (kc K 15, .int), (kc K 16, .long), (kc K 17, .int)] ++ kT K
theorem gw_ne {x : Int32} {k : Int} (y : Int32) (hy : y.toInt = k) (h : ¬ x = y) : x.toInt ≠ k := fun e => h (Int32.toInt_inj.mp (e.trans hy.symm))
theorem gw_out0_3 {x : Int32} (h0 : ¬ x = (0 : Int32)) (h1 : ¬ x = (1 : Int32)) (h2 : ¬ x = (2 : Int32)) (h3 : ¬ x = (3 : Int32)) : x.toInt < 0 ∨ 3 < x.toInt := by
  have e0 := gw_ne (k := 0) (0 : Int32) (by decide) h0
  have e1 := gw_ne (k := 1) (1 : Int32) (by decide) h1
  have e2 := gw_ne (k := 2) (2 : Int32) (by decide) h2
  have e3 := gw_ne (k := 3) (3 : Int32) (by decide) h3
  omega
theorem gw_out0_6 {x : Int32} (h0 : ¬ x = (0 : Int32)) (h1 : ¬ x = (1 : Int32)) (h2 : ¬ x = (2 : Int32)) (h3 : ¬ x = (3 : Int32)) (h4 : ¬ x = (4 : Int32)) (h5 : ¬ x = (5 : Int32)) (h6 : ¬ x = (6 : Int32)) : x.toInt < 0 ∨ 6 < x.toInt := by
  have e0 := gw_ne (k := 0) (0 : Int32) (by decide) h0
  have e1 := gw_ne (k := 1) (1 : Int32) (by decide) h1
  have e2 := gw_ne (k := 2) (2 : Int32) (by decide) h2
  have e3 := gw_ne (k := 3) (3 : Int32) (by decide) h3
  have e4 := gw_ne (k := 4) (4 : Int32) (by decide) h4
  have e5 := gw_ne (k := 5) (5 : Int32) (by decide) h5
  have e6 := gw_ne (k := 6) (6 : Int32) (by decide) h6
  omega
