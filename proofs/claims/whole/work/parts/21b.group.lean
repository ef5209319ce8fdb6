set_option maxRecDepth 4096 in
theorem litL (n : Nat) [OfNat Nat n] : (OfNat.ofNat n : Int64) = Int64.ofNat n := id (Eq.refl _)
set_option maxRecDepth 4096 in
theorem img_fx {nb : Nat} {V : VV} (B : Bas nb V) {x r o : Nat} (hx : x < vQ V) (hr : r < 4 + vG V / 8) : img nb V (1 + x * vP V + r) o = fx nb V x r o (1 + x * vP V + r) := by
  have hg := B.1.grp hx
  have hP := B.1.2.2.2.2.2.2.2.1
  have hb := B.1.blk (x := x) (r := r) (by omega)
  have e : 1 + x * vP V + r - 1 = x * vP V + r := by omega
  have ht := (B.2.1 (1 + x * vP V + r) (by omega) (by omega)).mp (by rw [e, hb.2]; exact hr)
  rw [img, if_pos ht, e, hb.1, hb.2]
set_option maxRecDepth 4096 in
theorem TT_b {nb : Nat} {V : VV} (b : Nat) {o : Nat} (ho : o < 1024) : TT nb V (1024 * b + o) = img nb V b o % 256 := by
  unfold TT; rw [show (1024 * b + o) / 1024 = b by omega, show (1024 * b + o) % 1024 = o by omega]
set_option maxRecDepth 4096 in
theorem begin_M (nb : Nat) {s : XS} {p : Nat} (h : s.1 4 = nI p) (x : Nat) : fMX12_begin_0 nb (nI x) s = some (nI (1 + x * p), s) := by
  simp only [fMX12_begin_0, fMX12_begin_0_0, h, lit, litN, nI_mul, nI_add]
def orv (v t : Nat) : Nat := v + (1 - v / 2 ^ t % 2) * 2 ^ t
set_option maxRecDepth 4096 in
theorem orB {v t : Nat} (hv : v < 256) (ht : t < 8) : (sb v ||| (nI 1 <<< (nI t &&& nI 31)).toInt8.toInt32).toInt8.toInt32 = sb (orv v t) :=
  (by decide +kernel : ∀ v, v < 256 → ∀ t, t < 8 → (sb v ||| (nI 1 <<< (nI t &&& nI 31)).toInt8.toInt32).toInt8.toInt32 = sb (orv v t)) v hv t ht
def pbit (u : Nat → Nat) (k m : Nat) : Nat := bits8 (fun t => if 8 * m + t < k then u (8 * m + t) else 0)
set_option maxRecDepth 4096 in
theorem pbit_0 (u : Nat → Nat) (m : Nat) : pbit u 0 m = 0 := by
  unfold pbit bits8; simp
set_option maxRecDepth 4096 in
theorem pbit_lt {u : Nat → Nat} (h : ∀ t, u t ≤ 1) (k m : Nat) : pbit u k m < 256 := bits8_lt (fun t => by
  show (if _ then _ else _) ≤ 1
  split
  · exact h _
  · omega)
set_option maxRecDepth 4096 in
theorem pbit_full {u : Nat → Nat} {m : Nat} (k : Nat) (h : 8 * m + 8 ≤ k) : pbit u k m = bits8 (fun t => u (8 * m + t)) := bits8_congr (fun t ht => if_pos (by omega))
set_option maxRecDepth 4096 in
theorem pbit_ne {u : Nat → Nat} {k m : Nat} (h : m ≠ k / 8) : pbit u (k + 1) m = pbit u k m := bits8_congr (fun t ht => by
  by_cases c : 8 * m + t < k
  · rw [if_pos c, if_pos (by omega)]
  · rw [if_neg c, if_neg (by omega)])
set_option maxRecDepth 4096 in
theorem pbit_up {u : Nat → Nat} (h : ∀ t, u t ≤ 1) (k : Nat) : pbit u (k + 1) (k / 8) = if u k = 0 then pbit u k (k / 8) else orv (pbit u k (k / 8)) (k % 8) := by
  have hb := bits8_bit (f := fun t => if 8 * (k / 8) + t < k then u (8 * (k / 8) + t) else 0) (fun t => by
    show (if _ then _ else _) ≤ 1
    split
    · exact h _
    · omega) (t := k % 8) (by omega)
  rw [if_neg (by omega)] at hb
  have hs := bits8_set (f := fun t => if 8 * (k / 8) + t < k then u (8 * (k / 8) + t) else 0) (u k) (t := k % 8) (by omega)
  have he : bits8 (up1 (fun t => if 8 * (k / 8) + t < k then u (8 * (k / 8) + t) else 0) (k % 8) (u k)) = pbit u (k + 1) (k / 8) := bits8_congr (fun t ht => by
    unfold up1
    by_cases c : t = k % 8
    · rw [if_pos c, if_pos (by omega), show 8 * (k / 8) + t = k by omega]
    · rw [if_neg c]
      show (if 8 * (k / 8) + t < k then u (8 * (k / 8) + t) else 0) = _
      by_cases c2 : 8 * (k / 8) + t < k
      · rw [if_pos c2, if_pos (by omega)]
      · rw [if_neg c2, if_neg (by omega)])
  rw [if_neg (by omega), he] at hs
  have h1 := h k
  by_cases c : u k = 0
  · rw [if_pos c]; rw [c] at hs; unfold pbit at *; omega
  · rw [if_neg c]
    have : u k = 1 := by omega
    rw [this] at hs
    unfold orv
    have e : pbit u k (k / 8) / 2 ^ (k % 8) % 2 = 0 := hb
    rw [e]
    unfold pbit at *; omega
set_option maxRecDepth 4096 in
theorem orv_T {u : Nat → Nat} (h : ∀ t, u t ≤ 1) {k : Nat} (hk : u k ≠ 0) : orv (bits8 (fun t => u (8 * (k / 8) + t))) (k % 8) = bits8 (fun t => u (8 * (k / 8) + t)) := by
  have hb := bits8_bit (f := fun t => u (8 * (k / 8) + t)) (fun t => h _) (t := k % 8) (by omega)
  have h1 := h k
  rw [show 8 * (k / 8) + k % 8 = k by omega] at hb
  unfold orv; rw [hb, show u k = 1 by omega]; simp
-- one map
def gm (T g0 : Nat → Nat) (b : Nat) (u : Nat → Nat) (k : Nat) : Nat → Nat := fun a => if a / 1024 = b ∧ g0 a ≠ T a then pbit u k (a % 1024) else g0 a
set_option maxRecDepth 4096 in
theorem gm_step {T g0 : Nat → Nat} {b : Nat} {u : Nat → Nat} (hu : ∀ t, u t ≤ 1) (hT : ∀ m, m < 1024 → T (1024 * b + m) = bits8 (fun t => u (8 * m + t))) {k : Nat} (hk : k < 8192) :
    (if u k = 0 then gm T g0 b u k else wr1 (gm T g0 b u k) (1024 * b + k / 8) (orv (gm T g0 b u k (1024 * b + k / 8)) (k % 8))) = gm T g0 b u (k + 1) := by
  have hd : (1024 * b + k / 8) / 1024 = b := by omega
  have hm : (1024 * b + k / 8) % 1024 = k / 8 := by omega
  funext a
  have hne : a ≠ 1024 * b + k / 8 → gm T g0 b u (k + 1) a = gm T g0 b u k a := fun hne => by
    unfold gm
    by_cases c : a / 1024 = b ∧ g0 a ≠ T a
    · rw [if_pos c, if_pos c]; exact pbit_ne (by omega)
    · rw [if_neg c, if_neg c]
  by_cases c : u k = 0
  · rw [if_pos c]
    by_cases ca : a = 1024 * b + k / 8
    · subst ca
      unfold gm
      rw [hd, hm]
      by_cases c2 : b = b ∧ g0 (1024 * b + k / 8) ≠ T (1024 * b + k / 8)
      · rw [if_pos c2, if_pos c2, pbit_up hu, if_pos c]
      · rw [if_neg c2, if_neg c2]
    · exact (hne ca).symm
  · rw [if_neg c]
    unfold wr1
    by_cases ca : a = 1024 * b + k / 8
    · rw [if_pos ca]
      subst ca
      unfold gm
      rw [hd, hm]
      by_cases c2 : b = b ∧ g0 (1024 * b + k / 8) ≠ T (1024 * b + k / 8)
      · rw [if_pos c2, if_pos c2]
        have := pbit_up hu k
        rw [if_neg c] at this
        rw [← this, Nat.mod_eq_of_lt (pbit_lt hu _ _)]
      · rw [if_neg c2, if_neg c2]
        have e : g0 (1024 * b + k / 8) = T (1024 * b + k / 8) := by
          rcases Decidable.em (g0 (1024 * b + k / 8) = T (1024 * b + k / 8)) with q | q
          · exact q
          · exact absurd ⟨rfl, q⟩ c2
        rw [e, hT _ (by omega), orv_T hu c]
        exact Nat.mod_eq_of_lt (bits8_lt (fun t => hu _))
    · rw [if_neg ca]; exact (hne ca).symm
set_option maxRecDepth 4096 in
theorem gm_0 {T g0 : Nat → Nat} {b : Nat} {u : Nat → Nat} (h : ∀ a, a / 1024 = b → g0 a = T a ∨ g0 a = 0) : gm T g0 b u 0 = g0 := by
  funext a
  unfold gm
  by_cases c : a / 1024 = b ∧ g0 a ≠ T a
  · rw [if_pos c, pbit_0]
    rcases h a c.1 with q | q
    · exact absurd q c.2
    · exact q.symm
  · rw [if_neg c]
set_option maxRecDepth 4096 in
theorem gm_full {T g0 : Nat → Nat} {b : Nat} {u : Nat → Nat} (hT : ∀ m, m < 1024 → T (1024 * b + m) = bits8 (fun t => u (8 * m + t))) (a : Nat) : gm T g0 b u 8192 a = if a / 1024 = b then T a else g0 a := by
  unfold gm
  by_cases c : a / 1024 = b
  · rw [if_pos c]
    have e := hT (a % 1024) (by omega)
    rw [show 1024 * b + a % 1024 = a by omega] at e
    by_cases c2 : g0 a = T a
    · rw [if_neg (fun q => q.2 c2), c2]
    · rw [if_pos ⟨c, c2⟩, pbit_full _ (by omega), e]
  · rw [if_neg (fun q => c q.1), if_neg c]
set_option maxRecDepth 4096 in
theorem gm_lt {T g0 : Nat → Nat} {b : Nat} {u : Nat → Nat} (hu : ∀ t, u t ≤ 1) (hT : ∀ m, m < 1024 → T (1024 * b + m) = bits8 (fun t => u (8 * m + t))) (k : Nat) {m : Nat} (hm : m < 1024) : gm T g0 b u k (1024 * b + m) < 256 := by
  unfold gm
  by_cases c : (1024 * b + m) / 1024 = b ∧ g0 (1024 * b + m) ≠ T (1024 * b + m)
  · rw [if_pos c]; exact pbit_lt hu _ _
  · rw [if_neg c]
    have e : g0 (1024 * b + m) = T (1024 * b + m) := by
      rcases Decidable.em (g0 (1024 * b + m) = T (1024 * b + m)) with q | q
      · exact q
      · exact absurd ⟨by omega, q⟩ c
    rw [e, hT m hm]; exact bits8_lt (fun t => hu _)
set_option maxRecDepth 4096 in
theorem gm_out {T g0 : Nat → Nat} {b : Nat} {u : Nat → Nat} {k a : Nat} (h : a / 1024 ≠ b) : gm T g0 b u k a = g0 a := if_neg (fun q => h q.1)
set_option maxRecDepth 4096 in
theorem gm_comm {T g0 : Nat → Nat} {b b' : Nat} {u u' : Nat → Nat} {k k' : Nat} (h : b ≠ b') : gm T (gm T g0 b u k) b' u' k' = gm T (gm T g0 b' u' k') b u k := by
  funext a
  by_cases c : a / 1024 = b
  · rw [gm_out (by omega)]
    unfold gm
    by_cases q : g0 a = T a
    · rw [if_neg (fun z => z.2 q), if_neg]
      · rw [if_neg (by omega)]
      · rw [if_neg (by omega)]; exact fun z => z.2 q
    · rw [if_pos ⟨c, q⟩, if_pos]
      rw [if_neg (by omega)]; exact ⟨c, q⟩
  · rw [gm_out (b := b) (a := a) (g0 := gm T g0 b' u' k') c]
    unfold gm
    by_cases c' : a / 1024 = b'
    · by_cases q : g0 a = T a
      · rw [if_neg, if_neg (by omega), if_neg (fun z => z.2 q)]
        rw [if_neg (by omega)]; exact fun z => z.2 q
      · rw [if_pos, if_pos ⟨c', q⟩]
        rw [if_neg (by omega)]; exact ⟨c', q⟩
    · rw [if_neg (fun z => c' z.1), if_neg (fun z => c z.1), if_neg (fun z => c' z.1)]
