-- the volume: numbers; rows of numbers; tables; lists of entries
abbrev VV : Type := (Nat → Nat) × (Nat → Nat → Nat) × (Nat → Nat → Nat → Nat) × (Nat → Nat → List Nat)
abbrev vP (V : VV) : Nat := V.1 0
abbrev vQ (V : VV) : Nat := V.1 1
abbrev vG (V : VV) : Nat := V.1 2
abbrev vI (V : VV) : Nat := V.1 3
abbrev vot (V : VV) : Nat → Nat := V.2.1 0
abbrev voi (V : VV) : Nat → Nat := V.2.1 1
abbrev vok (V : VV) : Nat → Nat := V.2.1 2
abbrev vkd (V : VV) : Nat → Nat := V.2.1 3
abbrev vsz (V : VV) : Nat → Nat := V.2.1 4
abbrev vlk (V : VV) : Nat → Nat := V.2.1 5
abbrev vmn (V : VV) : Nat → Nat := V.2.1 6
abbrev vrn (V : VV) : Nat → Nat := V.2.1 7
abbrev vtw (V : VV) : Nat → Nat := V.2.1 8
abbrev vsg (V : VV) : Nat → Nat := V.2.1 9
abbrev vdb (V : VV) : Nat → Nat := V.2.1 10
abbrev vpar (V : VV) : Nat → Nat := V.2.1 11
abbrev vFB (V : VV) : Nat → Nat := V.2.1 12
abbrev vFI (V : VV) : Nat → Nat := V.2.1 13
abbrev vdat (V : VV) : Nat → Nat := V.2.1 15
abbrev vtm (V : VV) : Nat → Nat := V.2.1 16
abbrev vent (V : VV) : Nat → Nat := V.2.1 17
abbrev vdp (V : VV) : Nat → Nat := V.2.1 18
abbrev vbl (V : VV) : Nat → Nat → Nat := V.2.2.1 0
abbrev vrw (V : VV) : Nat → Nat → Nat := V.2.2.1 1
abbrev vfb (V : VV) : Nat → Nat → Nat := V.2.2.1 2
abbrev vfi (V : VV) : Nat → Nat → Nat := V.2.2.1 3
abbrev vdc (V : VV) : Nat → Nat → Nat := V.2.2.1 4
abbrev ves (V : VV) : Nat → Nat → List Nat := V.2.2.2
def up1 (f : Nat → Nat) (k v : Nat) : Nat → Nat := fun j => if j = k then v else f j
def setS (V : VV) (k v : Nat) : VV := (up1 V.1 k v, V.2)
def setA (V : VV) (k i v : Nat) : VV := (V.1, va_up V.2.1 k (up1 (V.2.1 k) i v), V.2.2)
def setR (V : VV) (k : Nat) (f : Nat → Nat) : VV := (V.1, va_up V.2.1 k f, V.2.2)
def setT (V : VV) (k i j v : Nat) : VV := (V.1, V.2.1, va_up V.2.2.1 k (va_up (V.2.2.1 k) i (up1 (V.2.2.1 k i) j v)), V.2.2.2)
def setE (V : VV) (i k : Nat) (l : List Nat) : VV := (V.1, V.2.1, V.2.2.1, va_up V.2.2.2 i (va_up (V.2.2.2 i) k l))
theorem setA_e (V : VV) (k i v : Nat) : (setA V k i v).2.1 k i = v := by unfold setA; simp [va_up, up1]
theorem setA_n (V : VV) (k : Nat) {i j : Nat} (v : Nat) (h : j ≠ i) : (setA V k i v).2.1 k j = V.2.1 k j := by unfold setA; simp [va_up, up1, h]
theorem setA_o (V : VV) {k m : Nat} (i v : Nat) (h : m ≠ k) : (setA V k i v).2.1 m = V.2.1 m := by unfold setA; simp [va_up, h]
theorem setT_e (V : VV) (k i j v : Nat) : (setT V k i j v).2.2.1 k i j = v := by unfold setT; simp [va_up, up1]
theorem setT_n (V : VV) (k : Nat) {i j i' j' : Nat} (v : Nat) (h : i' ≠ i ∨ j' ≠ j) : (setT V k i j v).2.2.1 k i' j' = V.2.2.1 k i' j' := by
  unfold setT; simp only [va_up, if_true]
  by_cases h1 : i' = i
  · rw [if_pos h1, up1, if_neg (by omega), h1]
  · rw [if_neg h1]
theorem setT_o (V : VV) {k m : Nat} (i j v : Nat) (h : m ≠ k) : (setT V k i j v).2.2.1 m = V.2.2.1 m := by unfold setT; simp [va_up, h]
-- the disk's parts
def Lay (nb P Q G : Nat) : Prop := 128 ≤ nb ∧ nb ≤ 512 ∧ (P = 64 ∨ P = 128 ∨ P = 256) ∧ 1 ≤ Q ∧ Q ≤ 8 ∧ (Q - 1) * P + 13 + G / 8 ≤ nb ∧ nb ≤ Q * P + 1 ∧ 12 + G / 8 ≤ P ∧ G % 8 = 0 ∧ 8 ≤ G ∧ 12 ≤ Q * G ∧ Q * G ≤ 2064
theorem Lay.grp {nb P Q G x : Nat} (h : Lay nb P Q G) (hx : x < Q) : x * P + 13 + G / 8 ≤ nb := by
  obtain ⟨_, _, _, _, _, h1, _⟩ := h
  have : x * P ≤ (Q - 1) * P := Nat.mul_le_mul_right P (by omega)
  omega
theorem Lay.div {nb P Q G b : Nat} (h : Lay nb P Q G) (h1 : 1 ≤ b) (h2 : b < nb) : (b - 1) / P < Q ∧ (b - 1) / P * P + (b - 1) % P = b - 1 ∧ (b - 1) % P < P := by
  obtain ⟨_, _, hP, _, _, _, h3, _⟩ := h
  have hp : 0 < P := by omega
  exact ⟨(Nat.div_lt_iff_lt_mul hp).mpr (by omega), Nat.div_add_mod' _ _, Nat.mod_lt _ hp⟩
theorem Lay.blk {nb P Q G x r : Nat} (h : Lay nb P Q G) (hr : r < P) : (x * P + r) / P = x ∧ (x * P + r) % P = r := by
  have hp : 0 < P := by omega
  constructor
  · rw [Nat.add_comm, Nat.add_mul_div_right _ _ hp, Nat.div_eq_of_lt hr, Nat.zero_add]
  · rw [Nat.add_comm, Nat.add_mul_mod_self_right, Nat.mod_eq_of_lt hr]
theorem Lay.ino {nb P Q G i : Nat} (h : Lay nb P Q G) (h1 : 1 ≤ i) (h2 : i ≤ Q * G) : (i - 1) / G < Q ∧ (i - 1) / G * G + (i - 1) % G = i - 1 ∧ (i - 1) % G < G := by
  obtain ⟨_, _, _, _, _, _, _, _, _, hG, _⟩ := h
  have hp : 0 < G := by omega
  exact ⟨(Nat.div_lt_iff_lt_mul hp).mpr (by omega), Nat.div_add_mod' _ _, Nat.mod_lt _ hp⟩
def inoA (P G i : Nat) : Nat := 1024 * (1 + (i - 1) / G * P + 4) + 128 * ((i - 1) % G)
def inoX (P G b o : Nat) : Nat := (b - 1) / P * G + ((b - 1) % P - 4) * 8 + o / 128 + 1
-- the block and the place of an inode's byte
theorem Lay.at {nb P Q G i o : Nat} (h : Lay nb P Q G) (h1 : 1 ≤ i) (h2 : i ≤ Q * G) (ho : o < 128) :
    ∃ b o', b < nb ∧ 1 ≤ b ∧ o' < 1024 ∧ inoA P G i + o = 1024 * b + o' ∧ 4 ≤ (b - 1) % P ∧ (b - 1) % P < 4 + G / 8 ∧ inoX P G b o' = i ∧ o' % 128 = o := by
  obtain ⟨hx, he, hy⟩ := h.ino h1 h2
  have hg := h.grp hx
  have hG : G % 8 = 0 := h.2.2.2.2.2.2.2.2.1
  have hP : 12 + G / 8 ≤ P := h.2.2.2.2.2.2.2.1
  unfold inoA inoX
  generalize (i - 1) / G = x at *
  generalize (i - 1) % G = y at *
  have hb := h.blk (x := x) (r := 4 + y / 8) (by omega)
  refine ⟨1 + x * P + (4 + y / 8), 128 * (y % 8) + o, by omega, by omega, by omega, by omega, ?_⟩
  have e : 1 + x * P + (4 + y / 8) - 1 = x * P + (4 + y / 8) := by omega
  rw [e, hb.1, hb.2]
  refine ⟨by omega, by omega, by omega, by omega⟩
theorem Lay.inv {nb P Q G b o : Nat} (h : Lay nb P Q G) (h1 : 1 ≤ b) (h2 : b < nb) (ho : o < 1024) (h3 : 4 ≤ (b - 1) % P) (h4 : (b - 1) % P < 4 + G / 8) :
    1 ≤ inoX P G b o ∧ inoX P G b o ≤ Q * G ∧ inoA P G (inoX P G b o) + o % 128 = 1024 * b + o := by
  obtain ⟨hx, he, hy⟩ := h.div h1 h2
  have hG : G % 8 = 0 := h.2.2.2.2.2.2.2.2.1
  have hG8 : 8 ≤ G := h.2.2.2.2.2.2.2.2.2.1
  unfold inoX inoA
  generalize (b - 1) / P = x at *
  generalize (b - 1) % P = r at *
  have hs : x * G + (r - 4) * 8 + o / 128 + 1 - 1 = x * G + ((r - 4) * 8 + o / 128) := by omega
  have hlt : (r - 4) * 8 + o / 128 < G := by omega
  have e1 : (x * G + ((r - 4) * 8 + o / 128)) / G = x := by
    rw [Nat.add_comm, Nat.add_mul_div_right _ _ (by omega), Nat.div_eq_of_lt hlt, Nat.zero_add]
  have e2 : (x * G + ((r - 4) * 8 + o / 128)) % G = (r - 4) * 8 + o / 128 := by
    rw [Nat.add_comm, Nat.add_mul_mod_self_right, Nat.mod_eq_of_lt hlt]
  have hq : (x + 1) * G ≤ Q * G := Nat.mul_le_mul_right G hx
  rw [Nat.add_mul] at hq
  rw [hs, e1, e2]
  refine ⟨by omega, by omega, by omega⟩
