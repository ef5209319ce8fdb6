def Sc (V : VV) (σ : XS) : Prop := σ.1 2 = nI (vP V) ∧ σ.1 3 = nI (vQ V) ∧ σ.1 4 = nI (vG V) ∧ σ.1 5 = nI (vP V) ∧ σ.1 6 = nI (vG V)
theorem Bas_of {nb : Nat} {V W : VV} (h1 : W.1 = V.1) (h2 : vot W = vot V) (B : Bas nb V) : Bas nb W := by
  unfold Bas vP vQ vG; rw [h1, h2]; exact B
theorem Sc_of {V W : VV} {σ : XS} (h1 : W.1 = V.1) (S : Sc V σ) : Sc W σ := by
  unfold Sc vP vQ vG; rw [h1]; exact S
theorem m1024 (a : Nat) : a * 1024 = 1024 * a := Nat.mul_comm _ _
theorem partAt_X {nb : Nat} {V : VV} {σ : XS} (B : Bas nb V) (S : Sc V σ) (d : Nat → Nat) (x r : Nat) : fXX2_partAt_3 nb (nI x) (nI r) (XD σ d) = some (nI (1024 * (1 + x * vP V + r)), XD σ d) := by
  simp (disch := omega) only [fXX2_partAt_3_0, fXX2_partAt_3, lit, litN, XD_s, S.1, S.2.1, S.2.2.1, S.2.2.2.1, S.2.2.2.2, nI_add, nI_mul, m1024]
theorem groups_X {nb : Nat} {V : VV} {σ : XS} (B : Bas nb V) (S : Sc V σ) (d : Nat → Nat) : fXX2_groups_3 nb (XD σ d) = some (nI (vQ V), XD σ d) := by simp only [fXX2_groups_3_0, fXX2_groups_3, XD_s, S.1, S.2.1, S.2.2.1, S.2.2.2.1, S.2.2.2.2]
theorem gInodes_X {nb : Nat} {V : VV} {σ : XS} (B : Bas nb V) (S : Sc V σ) (d : Nat → Nat) : fXX2_groupInodes_3 nb (XD σ d) = some (nI (vG V), XD σ d) := by simp only [fXX2_groupInodes_3_0, fXX2_groupInodes_3, XD_s, S.1, S.2.1, S.2.2.1, S.2.2.2.1, S.2.2.2.2]
theorem gBlocks_X {nb : Nat} {V : VV} {σ : XS} (B : Bas nb V) (S : Sc V σ) (d : Nat → Nat) : fXX2_groupBlocks_3 nb (XD σ d) = some (nI (vP V), XD σ d) := by simp only [fXX2_groupBlocks_3_0, fXX2_groupBlocks_3, XD_s, S.1, S.2.1, S.2.2.1, S.2.2.2.1, S.2.2.2.2]
theorem inodes_X {nb : Nat} {V : VV} {σ : XS} (B : Bas nb V) (S : Sc V σ) (d : Nat → Nat) : fXX2_inodes_3 nb (XD σ d) = some (nI (vQ V * vG V), XD σ d) := by simp only [fXX2_inodes_3_0, fXX2_inodes_3, XD_s, S.1, S.2.1, S.2.2.1, S.2.2.2.1, S.2.2.2.2, nI_mul]
theorem G_lt {nb : Nat} {V : VV} (B : Bas nb V) : 8 ≤ vG V ∧ vG V ≤ 2064 ∧ 64 ≤ vP V ∧ vP V ≤ 256 ∧ 1 ≤ vQ V ∧ vQ V ≤ 8 ∧ vQ V * vG V ≤ 2064 ∧ 128 ≤ nb ∧ nb ≤ 512 ∧ vG V % 8 = 0 ∧ 12 ≤ vQ V * vG V ∧ 12 + vG V / 8 ≤ vP V := by
  obtain ⟨h1, h2, h3, h4, h5, h6, h7, h8, h9, h10, h11, h12⟩ := B.1
  have : 1 * vG V ≤ vQ V * vG V := Nat.mul_le_mul_right _ h4
  omega
theorem fixedB_X {nb : Nat} {V : VV} {σ : XS} (B : Bas nb V) (S : Sc V σ) (d : Nat → Nat) : fXX2_fixedBlocks_3 nb (XD σ d) = some (nI (4 + vG V / 8), XD σ d) := by
  have := G_lt B
  simp (disch := omega) only [fXX2_fixedBlocks_3_0, fXX2_fixedBlocks_3, lit, litN, XD_s, S.1, S.2.1, S.2.2.1, S.2.2.2.1, S.2.2.2.2, nI_add, nI_div]
theorem firstB_X {nb : Nat} {V : VV} {σ : XS} (B : Bas nb V) (S : Sc V σ) (d : Nat → Nat) (x : Nat) : fXX2_firstBlock_3 nb (nI x) (XD σ d) = some (nI (1 + x * vP V), XD σ d) := by
  simp only [fXX2_firstBlock_3_0, fXX2_firstBlock_3, lit, litN, XD_s, S.1, S.2.1, S.2.2.1, S.2.2.2.1, S.2.2.2.2, nI_add, nI_mul]
def rmB (nb : Nat) (V : VV) (x : Nat) : Nat := if nb - (1 + x * vP V) < vP V then nb - (1 + x * vP V) else vP V
theorem blocksIn_X {nb : Nat} {V : VV} {σ : XS} (B : Bas nb V) (S : Sc V σ) (d : Nat → Nat) {x : Nat} (hx : x < vQ V) : fXX2_blocksIn_3 nb (nI x) (XD σ d) = some (nI (rmB nb V x), XD σ d) := by
  have := G_lt B; have := B.1.grp hx
  simp (disch := omega) only [fXX2_blocksIn_3_0, fXX2_blocksIn_3, firstB_X B S, lit, litN, XD_s, S.1, S.2.1, S.2.2.1, S.2.2.2.1, S.2.2.2.2, obs, nI_sub, nI_ltI']
  unfold rmB; split <;> rfl
theorem realIn4_X {nb : Nat} {V : VV} {σ : XS} (B : Bas nb V) (S : Sc V σ) (d : Nat → Nat) {x : Nat} (hx : x < vQ V) : fXX3_realIn_4 nb (nI x) (XD σ d) = some (nI (rmB nb V x), XD σ d) := by
  simp only [fXX3_realIn_4_0, fXX3_realIn_4, blocksIn_X B S _ hx, obs]
theorem realIn5_X {nb : Nat} {V : VV} {σ : XS} (B : Bas nb V) (S : Sc V σ) (d : Nat → Nat) (x : Int32) : fXX3_realIn_5 nb x (XD σ d) = some (nI (vG V), XD σ d) := by
  simp only [fXX3_realIn_5_0, fXX3_realIn_5, gInodes_X B S, obs]
theorem inodeAt_X {nb : Nat} {V : VV} {σ : XS} (B : Bas nb V) (S : Sc V σ) (d : Nat → Nat) {i : Nat} (h1 : 1 ≤ i) (h2 : i < 2 ^ 31) : fXX2_inodeAt_3 nb (nI i) (XD σ d) = some (nI (inoA (vP V) (vG V) i), XD σ d) := by
  have := G_lt B
  simp (disch := omega) only [fXX2_inodeAt_3_0, fXX2_inodeAt_3, lit, litN, XD_s, S.1, S.2.1, S.2.2.1, S.2.2.2.1, S.2.2.2.2, nI_add, nI_mul, nI_sub_dm, n_sdm, nI_sub, nI_div, nI_ltI', nI_leI', nI_eqI, nI_clampI, if_pos, if_neg, if_true, if_false, obs, inoA, m1024, Nat.mul_comm _ 128]
theorem groupOf_X {nb : Nat} {V : VV} {σ : XS} (B : Bas nb V) (S : Sc V σ) (d : Nat → Nat) {i : Nat} (h1 : 1 ≤ i) (h2 : i < 2 ^ 31) : fXX2_groupOfInode_3 nb (nI i) (XD σ d) = some (nI ((i - 1) / vG V), XD σ d) := by
  have := G_lt B
  simp (disch := omega) only [fXX2_groupOfInode_3_0, fXX2_groupOfInode_3, lit, litN, XD_s, S.1, S.2.1, S.2.2.1, S.2.2.2.1, S.2.2.2.2, nI_add, nI_mul, nI_sub_dm, n_sdm, nI_sub, nI_div, nI_ltI', nI_leI', nI_eqI, nI_clampI, if_pos, if_neg, if_true, if_false, obs]
theorem ub_b {nb : Nat} {V : VV} (B : Bas nb V) {b : Nat} (h1 : 1 ≤ b) (h2 : b < nb) : ub V ((b - 1) / vP V) ((b - 1) % vP V) = if vot V b ≠ 0 then 1 else 0 := by
  obtain ⟨hx, he, hr⟩ := B.1.div h1 h2
  unfold ub
  rw [show 1 + (b - 1) / vP V * vP V + (b - 1) % vP V = b from by omega]
  by_cases h : vot V b ≠ 0
  · rw [if_pos h, if_pos (.inr h)]
  · rw [if_neg h, if_neg (by omega)]
theorem ui_i {nb : Nat} {V : VV} (B : Bas nb V) {i : Nat} (h1 : 1 ≤ i) (h2 : i ≤ vQ V * vG V) : ui V ((i - 1) / vG V) ((i - 1) % vG V) = if vkd V i ≠ 0 then 1 else 0 := by
  obtain ⟨hx, he, hr⟩ := B.1.ino h1 h2
  unfold ui
  rw [show (i - 1) / vG V * vG V + (i - 1) % vG V + 1 = i from by omega]
  by_cases h : vkd V i ≠ 0
  · rw [if_pos h, if_pos (.inr h)]
  · rw [if_neg h, if_neg (by omega)]
theorem isUsed4_X {nb : Nat} {V : VV} {d : Nat → Nat} {σ : XS} (B : Bas nb V) (S : Sc V σ) (D : DX nb V d) {b : Nat} (h1 : 1 ≤ b) (h2 : b < nb) : fXX3_isUsed_4 nb (nI b) (XD σ d) = some (if vot V b ≠ 0 then nI 1 else nI 0, XD σ d) := by
  have hg := G_lt B
  obtain ⟨hx, he, hr⟩ := B.1.div h1 h2
  have hl := fx_lt B hx (r := 2) (by omega)
  have hd : (b - 1) / vP V ≤ b - 1 := Nat.div_le_self _ _
  have hbm := rd_bmp B D hx (o := (b - 1) % vP V / 8) (by omega)
  have hlt : bits8 (fun t => ub V ((b - 1) / vP V) (8 * ((b - 1) % vP V / 8) + t)) < 256 := bits8_lt (fun t => ub_le _ _ _)
  have hbit := bits8_bit (f := fun t => ub V ((b - 1) / vP V) (8 * ((b - 1) % vP V / 8) + t)) (fun t => ub_le _ _ _) (t := (b - 1) % vP V % 8) (by omega)
  rw [show 8 * ((b - 1) % vP V / 8) + (b - 1) % vP V % 8 = (b - 1) % vP V from by omega, ub_b B h1 h2] at hbit
  simp (disch := omega) only [fXX3_isUsed_4_0, fXX3_isUsed_4, lit, litN, XD_s, S.1, S.2.1, S.2.2.1, S.2.2.2.1, S.2.2.2.2, nI_add, nI_mul, nI_sub_dm, n_sdm, nI_sub, nI_div, nI_ltI', nI_leI', nI_eqI, nI_clampI, if_pos, if_neg, if_true, if_false, obs, partAt_X B S, get_X, hbm, Nat.mod_eq_of_lt hlt, nI_sh31, bit_get, hbit]
  by_cases h : vot V b ≠ 0
  · simp (disch := omega) only [if_pos h, if_true]
  · simp (disch := omega) only [if_neg h, nI_ltI', nI_leI', nI_eqI, nI_clampI, if_pos, if_neg, if_true, if_false, obs]
theorem isUsed5_X {nb : Nat} {V : VV} {d : Nat → Nat} {σ : XS} (B : Bas nb V) (S : Sc V σ) (D : DX nb V d) {i : Nat} (h1 : 1 ≤ i) (h2 : i ≤ vQ V * vG V) : fXX3_isUsed_5 nb (nI i) (XD σ d) = some (if vkd V i ≠ 0 then nI 1 else nI 0, XD σ d) := by
  have hg := G_lt B
  obtain ⟨hx, he, hr⟩ := B.1.ino h1 h2
  have hl := fx_lt B hx (r := 3) (by omega)
  have hd : (i - 1) / vG V ≤ i - 1 := Nat.div_le_self _ _
  have hbm := rd_imp B D hx (o := (i - 1) % vG V / 8) (by omega)
  have hlt : bits8 (fun t => ui V ((i - 1) / vG V) (8 * ((i - 1) % vG V / 8) + t)) < 256 := bits8_lt (fun t => ui_le _ _ _)
  have hbit := bits8_bit (f := fun t => ui V ((i - 1) / vG V) (8 * ((i - 1) % vG V / 8) + t)) (fun t => ui_le _ _ _) (t := (i - 1) % vG V % 8) (by omega)
  rw [show 8 * ((i - 1) % vG V / 8) + (i - 1) % vG V % 8 = (i - 1) % vG V from by omega, ui_i B h1 h2] at hbit
  simp (disch := omega) only [fXX3_isUsed_5_0, fXX3_isUsed_5, lit, litN, XD_s, S.1, S.2.1, S.2.2.1, S.2.2.2.1, S.2.2.2.2, nI_add, nI_mul, nI_sub_dm, n_sdm, nI_sub, nI_div, nI_ltI', nI_leI', nI_eqI, nI_clampI, if_pos, if_neg, if_true, if_false, obs, partAt_X B S, get_X, hbm, Nat.mod_eq_of_lt hlt, nI_sh31, bit_get, hbit]
  by_cases h : vkd V i ≠ 0
  · simp (disch := omega) only [if_pos h, if_true]
  · simp (disch := omega) only [if_neg h, nI_ltI', nI_leI', nI_eqI, nI_clampI, if_pos, if_neg, if_true, if_false, obs]
theorem free4_X {nb : Nat} {V : VV} {d : Nat → Nat} {σ : XS} (B : Bas nb V) (S : Sc V σ) (D : DX nb V d) (hv : vFB V 0 < 4294967296) : fXX3_free_4 nb (XD σ d) = some (nI (vFB V 0), XD σ d) := by
  have hg := G_lt B
  have h := rd_FB B D (x := 0) (by omega) hv
  rw [show 1024 * (1 + 0 * vP V) + 12 = 1024 + 12 from by omega] at h
  simp (disch := omega) only [fXX3_free_4_0, fXX3_free_4, lit, litN, nI_add, get4_X, h, obs]
theorem free5_X {nb : Nat} {V : VV} {d : Nat → Nat} {σ : XS} (B : Bas nb V) (S : Sc V σ) (D : DX nb V d) (hv : vFI V 0 < 4294967296) : fXX3_free_5 nb (XD σ d) = some (nI (vFI V 0), XD σ d) := by
  have hg := G_lt B
  have h := rd_FI B D (x := 0) (by omega) hv
  rw [show 1024 * (1 + 0 * vP V) + 16 = 1024 + 16 from by omega] at h
  simp (disch := omega) only [fXX3_free_5_0, fXX3_free_5, lit, litN, nI_add, get4_X, h, obs]
