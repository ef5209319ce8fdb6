def dT (nb : Nat) (V : VV) (a : Nat) : Nat := img nb V (a / 1024) (a % 1024)
set_option maxRecDepth 4096 in
theorem DX_T (nb : Nat) (V : VV) : DX nb V (dT nb V) := fun b o hb ho h2 => by
  unfold dT; rw [show (1024 * b + o) / 1024 = b by omega, show (1024 * b + o) % 1024 = o by omega]
set_option maxRecDepth 4096 in
theorem TT_d (nb : Nat) (V : VV) (a : Nat) : TT nb V a = dT nb V a % 256 := rfl
set_option maxRecDepth 4096 in
theorem TT_ino {nb : Nat} {V : VV} (B : Bas nb V) {i o : Nat} (h1 : 1 ≤ i) (h2 : i ≤ vQ V * vG V) (ho : o < 128) : TT nb V (inoA (vP V) (vG V) i + o) = ino V i o % 256 := by
  rw [TT_d, ino_d B (DX_T nb V) h1 h2 ho]
set_option maxRecDepth 4096 in
theorem TT_fld {nb : Nat} {V : VV} (B : Bas nb V) {i o : Nat} (h1 : 1 ≤ i) (h2 : i ≤ vQ V * vG V) (hl : live V i) (ho : o < 40 ∨ (88 ≤ o ∧ o < 128)) : TT nb V (inoA (vP V) (vG V) i + o) = fld (inoF V i) o := by
  rw [TT_ino B h1 h2 (by omega)]
  unfold ino
  rw [if_pos hl, if_neg (by omega), Nat.mod_eq_of_lt (fld_lt _ _)]
set_option maxRecDepth 4096 in
theorem TT_p0 {nb : Nat} {V : VV} (B : Bas nb V) {i k j : Nat} (h1 : 1 ≤ i) (h2 : i ≤ vQ V * vG V) (hl : live V i) (hk : k < 12) (hj : j < 4) : TT nb V (inoA (vP V) (vG V) i + 40 + 4 * k + j) = byt (ptr V i k) j := by
  rw [Nat.add_assoc, Nat.add_assoc, TT_ino B h1 h2 (by omega)]
  unfold ino
  rw [if_pos hl, if_pos (by omega), show (40 + (4 * k + j) - 40) / 4 = k by omega, show (40 + (4 * k + j) - 40) % 4 = j by omega, Nat.mod_eq_of_lt (byt_lt _ _)]
set_option maxRecDepth 4096 in
theorem TT_p1 {nb : Nat} {V : VV} {b i w j : Nat} (ht : vot V b = 4) (hi : voi V b = i) (hw : w < 256) (hj : j < 4) : TT nb V (1024 * b + 4 * w + j) = byt (ptr V i (12 + w)) j := by
  rw [Nat.add_assoc, TT_b _ (by omega), img_4 _ ht, hi, show (4 * w + j) / 4 = w by omega, show (4 * w + j) % 4 = j by omega, Nat.mod_eq_of_lt (byt_lt _ _)]
set_option maxRecDepth 4096 in
theorem TT_p2 {nb : Nat} {V : VV} {b i w j : Nat} (ht : vot V b = 5) (hi : voi V b = i) (hw : w < 256) (hj : j < 4) : TT nb V (1024 * b + 4 * w + j) = byt (if w < vrn V i then vrw V i w else 0) j := by
  rw [Nat.add_assoc, TT_b _ (by omega), img_5 _ ht, hi, show (4 * w + j) / 4 = w by omega, show (4 * w + j) % 4 = j by omega, Nat.mod_eq_of_lt (byt_lt _ _)]
set_option maxRecDepth 4096 in
theorem TT_p3 {nb : Nat} {V : VV} {b i r w j : Nat} (ht : vot V b = 6) (hi : voi V b = i) (hr : vok V b = r) (hw : w < 256) (hj : j < 4) : TT nb V (1024 * b + 4 * w + j) = byt (ptr V i (268 + 256 * r + w)) j := by
  rw [Nat.add_assoc, TT_b _ (by omega), img_6 _ ht, hi, hr, show (4 * w + j) / 4 = w by omega, show (4 * w + j) % 4 = j by omega, Nat.mod_eq_of_lt (byt_lt _ _)]
set_option maxRecDepth 4096 in
theorem TT_3 {nb : Nat} {V : VV} {b o : Nat} (ht : vot V b = 3) (ho : o < 1024) : TT nb V (1024 * b + o) = vdat V (1024 * b + o) % 256 := by
  rw [TT_b _ ho, img_3 _ ht]
def cpW (g f : Nat → Nat) (b x : Nat) : Nat → Nat := fun a => if 1024 * b ≤ a ∧ a < 1024 * b + x then f a % 256 else g a
set_option maxRecDepth 4096 in
theorem cpW_s (g f : Nat → Nat) (b x : Nat) : wr1 (cpW g f b x) (1024 * b + x) (f (1024 * b + x)) = cpW g f b (x + 1) := by
  funext a
  unfold wr1 cpW
  by_cases c : a = 1024 * b + x
  · rw [if_pos c, if_pos (by omega), c]
  · rw [if_neg c]
    by_cases c2 : 1024 * b ≤ a ∧ a < 1024 * b + x
    · rw [if_pos c2, if_pos (by omega)]
    · rw [if_neg c2, if_neg (by omega)]
set_option maxRecDepth 4096 in
theorem cp_M {nb : Nat} (τ : XS) (f g : Nat → Nat) {b k : Nat} {x1 x2 x3 v : Int32} (hb : b < 512) (h5 : τ.2.1 5 b = v) (K : (Int32 × Int32 × Int32 × Int32 × Int32 × XS) → Option XS) :
    fMX12_showInode_0_337 nb K x1 x2 x3 (nI b) (nI k) (XD (XI τ g) f) = K (x1, x2, x3, v, nI (k + 1), XD (XI τ (cpW g f b 1024)) f) := by
  have key : ∃ g', g' = cpW g f b 1024 ∧ ∀ K : (Int32 × Int32 × Int32 × Int32 × Int32 × XS) → Option XS, lfix ((fun k169 k340 t => fMX12_showInode_0_340 nb k169 k340 t.1 t.2.1 t.2.2.1 t.2.2.2.1 t.2.2.2.2.1 t.2.2.2.2.2.1 t.2.2.2.2.2.2) K) FU (x1, x2, x3, nI b, nI k, nI 0, XD (XI τ g) f) = K (x1, x2, x3, v, nI (k + 1), XD (XI τ g') f) := by
    refine lfor (fun k169 k340 t => fMX12_showInode_0_340 nb k169 k340 t.1 t.2.1 t.2.2.1 t.2.2.2.1 t.2.2.2.2.1 t.2.2.2.2.2.1 t.2.2.2.2.2.2) (fun x (g' : Nat → Nat) => (x1, x2, x3, nI b, nI k, nI x, XD (XI τ g') f)) (fun K g' => K (x1, x2, x3, v, nI (k + 1), XD (XI τ g') f)) 1024 (fun x g' => g' = cpW g f b x) ?_ ?_ 0 g FU (Nat.zero_le _) ?_ (by unfold FU; omega)
    · rintro x g' hx rfl
      refine ⟨_, rfl, fun _ K' => ?_⟩
      have e0 : (XD (XI τ (cpW g f b x)) f).2.1 0 (1024 * b + x) = sb (f (1024 * b + x)) := rfl
      simp (disch := omega) only [fMX12_showInode_0_340, lit, litN, nI_ltI', nI_leI', nI_eqI, nI_clampI, n_or, if_neg, nI_add, nI_mul, e0, nar_sb, XI_put, cpW_s]
    · rintro g' rfl K' K2
      have e5 : (XD (XI τ (cpW g f b 1024)) f).2.1 5 b = v := by rw [XD_k _ _ _ _ (by omega), XI_o _ _ (by omega)]; exact h5
      simp (disch := omega) only [fMX12_showInode_0_340, lit, litN, nI_ltI', nI_leI', nI_eqI, nI_clampI, n_or, if_neg, if_pos, nI_add, e5]
    · funext a; unfold cpW; rw [if_neg (by omega)]
  obtain ⟨g', rfl, h⟩ := key
  have := h K
  simp only [fMX12_showInode_0_337, lit, litN]
  exact this
set_option maxRecDepth 4096 in
theorem Adv_cp {nb : Nat} {V : VV} {g f : Nat → Nat} (Z : Zr nb V g) {b : Nat} (hv : ∀ o, o < 1024 → f (1024 * b + o) % 256 = TT nb V (1024 * b + o)) : Adv nb V g (cpW g f b 1024) ∧ ∀ o, o < 1024 → cpW g f b 1024 (1024 * b + o) = TT nb V (1024 * b + o) := by
  have key : ∀ x, 1024 * b ≤ x ∧ x < 1024 * b + 1024 → cpW g f b 1024 x = TT nb V x := fun x hx => by
    have := hv (x - 1024 * b) (by omega)
    rw [show 1024 * b + (x - 1024 * b) = x by omega] at this
    unfold cpW; rw [if_pos hx, this]
  have key2 : ∀ x, ¬ (1024 * b ≤ x ∧ x < 1024 * b + 1024) → cpW g f b 1024 x = g x := fun x hx => if_neg hx
  refine ⟨⟨fun x hx => ?_, fun x hx e => ?_⟩, fun o ho => key _ (by omega)⟩
  · by_cases c : 1024 * b ≤ x ∧ x < 1024 * b + 1024
    · exact .inl (key x c)
    · rw [key2 x c]; exact Z x hx
  · by_cases c : 1024 * b ≤ x ∧ x < 1024 * b + 1024
    · exact key x c
    · rw [key2 x c]; exact e
set_option maxRecDepth 4096 in
theorem inodeAt_M {nb : Nat} {V : VV} (B : Bas nb V) {s : XS} {i : Nat} (h1 : 1 ≤ i) (h2 : i ≤ vQ V * vG V) (s4 : s.1 4 = nI (vP V)) (s5 : s.1 5 = nI (vG V)) : fMX12_inodeAt_0 nb (nI i) s = some (nI (inoA (vP V) (vG V) i), s) := by
  have hg := G_lt B
  have bg := begin_M nb s4 ((i - 1) / vG V)
  unfold inoA
  simp (disch := omega) only [fMX12_inodeAt_0, fMX12_inodeAt_0_0, s5, lit, litN, nI_ltI', nI_leI', nI_eqI, nI_clampI, if_neg, nI_sub, nI_div, bg, obs, nI_add, nI_mul, nI_sub_dm, n_sdm]
