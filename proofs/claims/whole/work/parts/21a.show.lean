def L64 (v : Int64) (x : Nat) : Prop := ∀ j, j < 4 → (((v >>> ((nI (8 * j)).toInt64 &&& 63)).toInt32).toInt8).toInt32 = sb (x / 2 ^ (8 * j))
set_option maxRecDepth 4096 in
theorem sh64 {j : Nat} (hj : j < 4) : ((nI (8 * j)).toInt64 &&& 63 : Int64).toBitVec.smod 64 = BitVec.ofNat 64 (8 * j) := by
  revert j; decide +kernel
set_option maxRecDepth 4096 in
theorem L64_i (x : Nat) : L64 (nI x).toInt64 x := by
  intro j hj
  unfold sb
  congr 1
  apply Int8.toBitVec_inj.mp
  show ((BitVec.sshiftRight' ((BitVec.ofNat 32 x).signExtend 64) (((nI (8 * j)).toInt64 &&& 63 : Int64).toBitVec.smod 64)).signExtend 32).signExtend 8 = (BitVec.ofNat 32 (x / 2 ^ (8 * j))).signExtend 8
  rw [sh64 hj]
  apply BitVec.eq_of_getLsbD_eq
  intro i hi
  rw [BitVec.signExtend_eq_setWidth_of_le _ (by decide : 8 ≤ 32), BitVec.signExtend_eq_setWidth_of_le _ (by decide : 8 ≤ 32), BitVec.signExtend_eq_setWidth_of_le _ (by decide : 32 ≤ 64)]
  simp only [BitVec.getLsbD_setWidth, BitVec.sshiftRight_eq', BitVec.toNat_ofNat, BitVec.getLsbD_sshiftRight, BitVec.getLsbD_ofNat, Nat.testBit_div_two_pow, BitVec.getLsbD_signExtend]
  have h1 : 8 * j % 2 ^ 64 = 8 * j := Nat.mod_eq_of_lt (by omega)
  rw [h1]
  simp only [hi, decide_true, Bool.true_and, show i < 32 from by omega, show 8 * j + i < 64 from by omega, show 8 * j + i < 32 from by omega, if_true, show ¬ (64 ≤ i) from by omega, decide_false, Bool.not_false, Nat.add_comm i (8 * j)]
set_option maxRecDepth 4096 in
theorem L64_n (x : Nat) : L64 (Int64.ofNat x) x := by
  intro j hj
  unfold sb
  congr 1
  apply Int8.toBitVec_inj.mp
  show ((BitVec.sshiftRight' (BitVec.ofNat 64 x) (((nI (8 * j)).toInt64 &&& 63 : Int64).toBitVec.smod 64)).signExtend 32).signExtend 8 = (BitVec.ofNat 32 (x / 2 ^ (8 * j))).signExtend 8
  rw [sh64 hj]
  apply BitVec.eq_of_getLsbD_eq
  intro i hi
  rw [BitVec.signExtend_eq_setWidth_of_le _ (by decide : 8 ≤ 32), BitVec.signExtend_eq_setWidth_of_le _ (by decide : 8 ≤ 32), BitVec.signExtend_eq_setWidth_of_le _ (by decide : 32 ≤ 64)]
  simp only [BitVec.getLsbD_setWidth, BitVec.sshiftRight_eq', BitVec.toNat_ofNat, BitVec.getLsbD_sshiftRight, BitVec.getLsbD_ofNat, Nat.testBit_div_two_pow]
  have h1 : 8 * j % 2 ^ 64 = 8 * j := Nat.mod_eq_of_lt (by omega)
  rw [h1]
  simp only [hi, decide_true, Bool.true_and, show i < 32 from by omega, show 8 * j + i < 64 from by omega, if_true, show ¬ (64 ≤ i) from by omega, decide_false, Bool.not_false, Nat.add_comm i (8 * j)]
def XI (τ : XS) (g : Nat → Nat) : XS := (τ.1, va_up τ.2.1 1 (fun a => sb (g a)), τ.2.2)
set_option maxRecDepth 4096 in
theorem XI_o (τ : XS) (g : Nat → Nat) {k : Nat} (h : k ≠ 1) : (XI τ g).2.1 k = τ.2.1 k := va_up_ne _ _ h
set_option maxRecDepth 4096 in
theorem XI_d (τ : XS) (g : Nat → Nat) (a : Nat) : (XI τ g).2.1 1 a = sb (g a) := rfl
set_option maxRecDepth 4096 in
theorem XI_put (τ : XS) (g f : Nat → Nat) (i v : Nat) : stA (XD (XI τ g) f) 1 i (sb v) = XD (XI τ (wr1 g i v)) f := by
  rw [XD_A _ _ _ _ (by omega)]
  congr 1
  unfold stA XI
  refine Prod.ext rfl (Prod.ext ?_ rfl)
  funext k x
  show va_up (va_up τ.2.1 1 (fun a => sb (g a))) 1 (upd (fun a => sb (g a)) i (sb v)) k x = va_up τ.2.1 1 (fun a => sb (wr1 g i v a)) k x
  by_cases c : k = 1
  · subst c
    rw [va_up_self, va_up_self]
    unfold upd wr1
    by_cases c2 : x = i
    · rw [if_pos c2, if_pos c2, sb_mod]
    · rw [if_neg c2, if_neg c2]
  · rw [va_up_ne _ _ c, va_up_ne _ _ c, va_up_ne _ _ c]
set_option maxRecDepth 4096 in
theorem RM_XI {nb : Nat} {V : VV} {τ : XS} {f : Nat → Nat} (R : RM nb V τ f) (g : Nat → Nat) : RM nb V (XI τ g) f := RM_tau R (fun _ _ => rfl) (fun k h1 _ => XI_o τ g (by omega)) rfl
set_option maxRecDepth 4096 in
theorem put_L {nb : Nat} (τ : XS) (f g : Nat → Nat) {a n x : Nat} {v : Int64} (hL : L64 v x) (h : a + n ≤ 524288) (hn : n ≤ 4) : fMX12_put_0 nb (nI a) (nI n) v (XD (XI τ g) f) = some (XD (XI τ (wrN g a n x)) f) := by
  have key : ∃ g', g' = wrN g a n x ∧ ∀ u : Unit, lfix ((fun _ k3 t => fMX12_put_0_3 nb k3 t.1 t.2.1 t.2.2.1 t.2.2.2.1 t.2.2.2.2) u) FU (nI a, nI n, v, nI 0, XD (XI τ g) f) = some (XD (XI τ g') f) := by
    refine lfor (κ := Unit) (fun _ k3 t => fMX12_put_0_3 nb k3 t.1 t.2.1 t.2.2.1 t.2.2.2.1 t.2.2.2.2) (fun k (g : Nat → Nat) => (nI a, nI n, v, nI k, XD (XI τ g) f)) (fun _ g => some (XD (XI τ g) f)) n (fun k g' => g' = wrN g a k x) ?_ ?_ 0 g FU (Nat.zero_le _) ?_ (by unfold FU; omega)
    · rintro k g' hk rfl
      refine ⟨_, rfl, fun _ K => ?_⟩
      have hl := hL k (by omega)
      have e := wrN_succ g a x (n := k) (by omega)
      simp (disch := omega) only [fMX12_put_0_3, lit, litN, nI_ltI', nI_leI', nI_eqI, nI_clampI, n_or, if_neg, nI_add, nI_mul, hl, nar_sb, XI_put, e]
    · rintro g' rfl _ K
      simp (disch := omega) only [fMX12_put_0_3, nI_ltI', nI_leI', nI_eqI, nI_clampI, if_pos]
    · funext y; unfold wrN; rw [if_neg (by omega)]
  obtain ⟨g', rfl, h2⟩ := key
  have h3 := h2 ()
  simp only [fMX12_put_0, fMX12_put_0_0, lit, litN]
  exact h3
set_option maxRecDepth 4096 in
theorem put_i {nb : Nat} (τ : XS) (f g : Nat → Nat) {a n x : Nat} (h : a + n ≤ 524288) (hn : n ≤ 4) : fMX12_put_0 nb (nI a) (nI n) (nI x).toInt64 (XD (XI τ g) f) = some (XD (XI τ (wrN g a n x)) f) := put_L τ f g (L64_i x) h hn
set_option maxRecDepth 4096 in
theorem put_n {nb : Nat} (τ : XS) (f g : Nat → Nat) {a n : Nat} (x : Nat) (h : a + n ≤ 524288) (hn : n ≤ 4) : fMX12_put_0 nb (nI a) (nI n) (Int64.ofNat x) (XD (XI τ g) f) = some (XD (XI τ (wrN g a n x)) f) := put_L τ f g (L64_n x) h hn
-- what the image must become
def TT (nb : Nat) (V : VV) (a : Nat) : Nat := img nb V (a / 1024) (a % 1024) % 256
def Zr (nb : Nat) (V : VV) (g : Nat → Nat) : Prop := ∀ a, a < 1024 * nb → g a = TT nb V a ∨ g a = 0
def Adv (nb : Nat) (V : VV) (g g' : Nat → Nat) : Prop := Zr nb V g' ∧ ∀ a, a < 1024 * nb → g a = TT nb V a → g' a = TT nb V a
set_option maxRecDepth 4096 in
theorem Adv_rfl {nb : Nat} {V : VV} {g : Nat → Nat} (Z : Zr nb V g) : Adv nb V g g := ⟨Z, fun _ _ h => h⟩
set_option maxRecDepth 4096 in
theorem Adv_trans {nb : Nat} {V : VV} {a b c : Nat → Nat} (h : Adv nb V a b) (g : Adv nb V b c) : Adv nb V a c := ⟨g.1, fun x hx e => g.2 x hx (h.2 x hx e)⟩
set_option maxRecDepth 4096 in
theorem Adv_wr {nb : Nat} {V : VV} {g : Nat → Nat} (Z : Zr nb V g) {a n v : Nat} (hv : ∀ j, j < n → TT nb V (a + j) = byt v j) : Adv nb V g (wrN g a n v) ∧ ∀ j, j < n → wrN g a n v (a + j) = TT nb V (a + j) := by
  have key : ∀ x, a ≤ x ∧ x < a + n → wrN g a n v x = TT nb V x := fun x hx => by
    have := hv (x - a) (by omega)
    rw [show a + (x - a) = x by omega] at this
    unfold wrN; rw [if_pos hx, this]
  have key2 : ∀ x, ¬ (a ≤ x ∧ x < a + n) → wrN g a n v x = g x := fun x hx => if_neg hx
  refine ⟨⟨fun x hx => ?_, fun x hx e => ?_⟩, fun j hj => key _ (by omega)⟩
  · by_cases c : a ≤ x ∧ x < a + n
    · exact .inl (key x c)
    · rw [key2 x c]; exact Z x hx
  · by_cases c : a ≤ x ∧ x < a + n
    · exact key x c
    · rw [key2 x c]; exact e
def wrs (base : Nat) : List (Nat × Nat × Nat) → (Nat → Nat) → Nat → Nat
  | [], g => g
  | q :: L, g => wrs base L (wrN g (base + q.1) q.2.1 q.2.2)
set_option maxRecDepth 4096 in
theorem Adv_wrs {nb : Nat} {V : VV} {base : Nat} : ∀ (L : List (Nat × Nat × Nat)) (g : Nat → Nat), Zr nb V g → (∀ q ∈ L, base + q.1 + q.2.1 ≤ 1024 * nb) → (∀ q ∈ L, ∀ j, j < q.2.1 → TT nb V (base + q.1 + j) = byt q.2.2 j) → Adv nb V g (wrs base L g) ∧ ∀ q ∈ L, ∀ j, j < q.2.1 → wrs base L g (base + q.1 + j) = TT nb V (base + q.1 + j) := by
  intro L
  induction L with
  | nil => intro g Z _ _; exact ⟨Adv_rfl Z, fun q hq => by simp at hq⟩
  | cons q L ih =>
    intro g Z hb h
    obtain ⟨a1, a2⟩ := Adv_wr Z (a := base + q.1) (n := q.2.1) (v := q.2.2) (fun j hj => h q (List.mem_cons_self ..) j hj)
    obtain ⟨b1, b2⟩ := ih _ a1.1 (fun p hp => hb p (List.mem_cons_of_mem _ hp)) (fun p hp => h p (List.mem_cons_of_mem _ hp))
    refine ⟨Adv_trans a1 b1, fun p hp j hj => ?_⟩
    rcases List.mem_cons.mp hp with e | e
    · subst e
      exact b1.2 _ (by have := hb p (List.mem_cons_self ..); omega) (a2 j hj)
    · exact b2 p e j hj
def Srt : List (Nat × Nat × Nat) → Prop
  | [] => True
  | q :: L => (∀ p ∈ L, q.1 + q.2.1 ≤ p.1) ∧ Srt L
set_option maxRecDepth 4096 in
theorem fld_get : ∀ (L : List (Nat × Nat × Nat)), Srt L → ∀ q ∈ L, ∀ j, j < q.2.1 → fld L (q.1 + j) = byt q.2.2 j := by
  intro L
  induction L with
  | nil => intro _ q hq; simp at hq
  | cons p L ih =>
    intro hS q hq j hj
    unfold fld
    rcases List.mem_cons.mp hq with e | e
    · subst e; rw [if_pos (by omega), Nat.add_sub_cancel_left]
    · have := hS.1 q e
      rw [if_neg (by omega)]; exact ih hS.2 q e j hj
set_option maxRecDepth 4096 in
theorem fld_cov : ∀ (L : List (Nat × Nat × Nat)) (o : Nat), fld L o = 0 ∨ ∃ q ∈ L, q.1 ≤ o ∧ o < q.1 + q.2.1 := by
  intro L
  induction L with
  | nil => intro o; exact .inl rfl
  | cons p L ih =>
    intro o
    by_cases c : p.1 ≤ o ∧ o < p.1 + p.2.1
    · exact .inr ⟨p, List.mem_cons_self .., c⟩
    · unfold fld; rw [if_neg c]
      rcases ih o with h | ⟨q, h1, h2⟩
      · exact .inl h
      · exact .inr ⟨q, List.mem_cons_of_mem _ h1, h2⟩
set_option maxRecDepth 4096 in
theorem byt_lt (v j : Nat) : byt v j < 256 := Nat.mod_lt _ (by decide)
set_option maxRecDepth 4096 in
theorem fld_lt : ∀ (L : List (Nat × Nat × Nat)) (o : Nat), fld L o < 256 := by
  intro L
  induction L with
  | nil => intro o; show 0 < 256; omega
  | cons p L ih =>
    intro o
    unfold fld
    split
    · exact byt_lt _ _
    · exact ih o
set_option maxRecDepth 4096 in
theorem Srt_sup (nb : Nat) (V : VV) (x : Nat) : Srt (supF nb V x) := by
  unfold supF; simp [Srt]
set_option maxRecDepth 4096 in
theorem Srt_dsc (V : VV) (x y : Nat) : Srt (dscF V x y) := by
  unfold dscF; simp [Srt]
set_option maxRecDepth 4096 in
theorem Srt_ino (V : VV) (i : Nat) : Srt (inoF V i) := by
  unfold inoF; simp [Srt]
