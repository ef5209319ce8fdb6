def cov (nb : Nat) (V : VV) (i : Nat) (g : Nat → Nat) (k : Nat) : Prop := (∀ o, o < 1024 → g (1024 * vbl V i k + o) = TT nb V (1024 * vbl V i k + o)) ∧ (k < 12 → ∀ j, j < 4 → g (inoA (vP V) (vG V) i + 40 + 4 * k + j) = TT nb V (inoA (vP V) (vG V) i + 40 + 4 * k + j)) ∧
  (12 ≤ k → k < 268 → ∀ j, j < 4 → g (1024 * vsg V i + 4 * (k - 12) + j) = TT nb V (1024 * vsg V i + 4 * (k - 12) + j)) ∧ (268 ≤ k → ∀ j, j < 4 → g (1024 * vrw V i 0 + 4 * (k - 268) + j) = TT nb V (1024 * vrw V i 0 + 4 * (k - 268) + j)) ∧ (k = 268 → ∀ j, j < 4 → g (1024 * vdb V i + 4 * 0 + j) = TT nb V (1024 * vdb V i + 4 * 0 + j))
set_option maxRecDepth 4096 in
theorem cov_adv {nb : Nat} {V : VV} (A : Stc nb V) {i k : Nat} (h1 : 1 ≤ i) (h2 : i ≤ vQ V * vG V) (hl : live V i) (P : Shp V i) (hk : k < vmn V i) {g g' : Nat → Nat} (a : Adv nb V g g') (c : cov nb V i g k) : cov nb V i g' k := by
  have hm := mn_lt A.1 A.2.2 hl
  have hA := inoA_lt A.1 h1 h2
  have hg := G_lt A.1
  obtain ⟨c1, c2, c3, c4, c5⟩ := c
  have ob := A.2.2.1 i k hl hk
  refine ⟨fun o ho => a.2 _ (by omega) (c1 o ho), fun q j hj => a.2 _ (by omega) (c2 q j hj), fun q q2 j hj => ?_, fun q j hj => ?_, fun q j hj => ?_⟩
  · have := (A.2.2.2.2.1 i hl (P.1.mpr (by omega))).1
    exact a.2 _ (by omega) (c3 q q2 j hj)
  · have hr : vrn V i = 1 := by rw [P.2.2.1, if_pos (by omega)]
    have := A.2.2.2.2.2.2.2.2.1 i 0 hl (by omega)
    exact a.2 _ (by omega) (c4 q j hj)
  · have := (A.2.2.2.2.2.2.1 i hl (P.2.1.mpr (by omega))).1
    exact a.2 _ (by omega) (c5 q j hj)
set_option maxRecDepth 4096 in
theorem blk_M {nb : Nat} {V : VV} (A : Stc nb V) {τ : XS} {f g : Nat → Nat} (R : RM nb V τ f) (Z : Zr nb V g) {i k : Nat} (h1 : 1 ≤ i) (h2 : i ≤ vQ V * vG V) (hl : live V i) (P : Shp V i) (hk : k < vmn V i) :
    ∃ g', Adv nb V g g' ∧ cov nb V i g' k ∧ ∀ K, fMX12_showInode_0_169 nb K (nI i) (nI (inoA (vP V) (vG V) i)) (nI (far0 V i)) (nI (vbl V i k)) (nI k) (XD (XI τ g) f) = K (nI i, nI (inoA (vP V) (vG V) i), nI (far0 V i), nI (if k + 1 < vmn V i then vbl V i (k + 1) else 0), nI (k + 1), XD (XI τ g') f) := by
  have hm := mn_lt A.1 A.2.2 hl
  have hA := inoA_lt A.1 h1 h2
  have hg := G_lt A.1
  have ob := A.2.2.1 i k hl hk
  have hi : i < 2100 := by omega
  have hp : ptr V i k = vbl V i k := if_pos hk
  have r9 : ∀ g, (XD (XI τ g) f).2.1 9 i = nI (vmn V i) := fun g => by rw [XD_k _ _ _ _ (by omega), XI_o _ _ (by omega)]; exact (R.2.2.1 i hi).2.2.2.1
  have r12 : ∀ g, (XD (XI τ g) f).2.1 12 i = nI (vsg V i) := fun g => by rw [XD_k _ _ _ _ (by omega), XI_o _ _ (by omega)]; exact (R.2.2.1 i hi).2.2.2.2.1
  have r13 : ∀ g, (XD (XI τ g) f).2.1 13 i = nI (vdb V i) := fun g => by rw [XD_k _ _ _ _ (by omega), XI_o _ _ (by omega)]; exact (R.2.2.1 i hi).2.2.2.2.2.1
  have r14 : ∀ g, (XD (XI τ g) f).2.1 14 i = nI (far0 V i) := fun g => by rw [XD_k _ _ _ _ (by omega), XI_o _ _ (by omega)]; exact (R.2.2.1 i hi).2.2.2.2.2.2.2
  have r5 := R.2.2.2.2.2.2.1 i k hi hl hk
  have cp := fun g K => cp_M (nb := nb) τ f g (b := vbl V i k) (k := k) (x1 := nI i) (x2 := nI (inoA (vP V) (vG V) i)) (x3 := nI (far0 V i)) (by omega) r5 K
  have hv : ∀ o, o < 1024 → f (1024 * vbl V i k + o) % 256 = TT nb V (1024 * vbl V i k + o) := fun o ho => by
    rw [TT_3 ob.2.2.1 ho, R.2.2.2.2.2.2.2.2 _ o ob.2.1 ho ob.2.2.1]
  generalize hb : vbl V i k = b at *
  generalize hAA : inoA (vP V) (vG V) i = AA at *
  by_cases c12 : k < 12
  · obtain ⟨a1, a2⟩ := Adv_wr Z (a := AA + 40 + 4 * k) (n := 4) (v := b) (fun j hj => by rw [← hAA, TT_p0 A.1 h1 h2 hl c12 hj, hp])
    obtain ⟨b1, b2⟩ := Adv_cp a1.1 hv
    refine ⟨_, Adv_trans a1 b1, ⟨fun o ho => by rw [hb]; exact b2 o ho, fun _ j hj => by rw [hAA]; exact b1.2 _ (by omega) (a2 j hj), by omega, by omega, by omega⟩, fun K => ?_⟩
    simp (disch := omega) only [fMX12_showInode_0_169, lit, litN, nI_ltI', nI_leI', nI_eqI, nI_clampI, n_or, if_neg, r9, nI_add, nI_mul, put_i, obs, cp]
  · by_cases c268 : k < 268
    · have hs := A.2.2.2.2.1 i hl (P.1.mpr (by omega))
      obtain ⟨a1, a2⟩ := Adv_wr Z (a := 1024 * vsg V i + 4 * (k - 12)) (n := 4) (v := b) (fun j hj => by rw [TT_p1 hs.2.1 hs.2.2 (by omega) hj, show 12 + (k - 12) = k by omega, hp])
      obtain ⟨b1, b2⟩ := Adv_cp a1.1 hv
      refine ⟨_, Adv_trans a1 b1, ⟨fun o ho => by rw [hb]; exact b2 o ho, by omega, fun _ _ j hj => b1.2 _ (by omega) (a2 j hj), by omega, by omega⟩, fun K => ?_⟩
      simp (disch := omega) only [fMX12_showInode_0_169, lit, litN, nI_ltI', nI_leI', nI_eqI, nI_clampI, n_or, if_neg, if_pos, r9, r12, nI_sub, nI_add, nI_mul, put_i, obs, cp]
    · have hr : vrn V i = 1 := by rw [P.2.2.1, if_pos (by omega)]
      have ho := A.2.2.2.2.2.2.2.2.1 i 0 hl (by omega)
      have hf0 : far0 V i = vrw V i 0 := by unfold far0; rw [if_neg (by omega)]
      rw [hf0] at r14 cp ⊢
      by_cases ce : k = 268
      · subst ce
        have hd := A.2.2.2.2.2.2.1 i hl (P.2.1.mpr (by omega))
        obtain ⟨a1, a2⟩ := Adv_wr Z (a := 1024 * vdb V i + 4 * 0) (n := 4) (v := vrw V i 0) (fun j hj => by rw [TT_p2 hd.2.1 hd.2.2 (by omega) hj, if_pos (by omega)])
        obtain ⟨d1, d2⟩ := Adv_wr a1.1 (a := 1024 * vrw V i 0 + 4 * 0) (n := 4) (v := b) (fun j hj => by rw [TT_p3 ho.2.2.1 ho.2.2.2.1 ho.2.2.2.2 (by omega) hj, ← hp])
        obtain ⟨b1, b2⟩ := Adv_cp d1.1 hv
        refine ⟨_, Adv_trans a1 (Adv_trans d1 b1), ⟨fun o ho => by rw [hb]; exact b2 o ho, by omega, by omega, fun _ j hj => b1.2 _ (by omega) (d2 j hj), fun _ j hj => b1.2 _ (by omega) (d1.2 _ (by omega) (a2 j hj))⟩, fun K => ?_⟩
        simp (disch := omega) only [fMX12_showInode_0_169, fMX12_showInode_0_280, fMX12_showInode_0_311, lit, litN, nI_ltI', nI_leI', nI_eqI, nI_clampI, n_or, if_neg, if_pos, if_true, r9, r13, r14, nI_sub, nI_div, nI_add, nI_mul, nI_sub_dm, n_sdm, put_i, obs]
        exact cp _ K
      · have e256 : (k - 268) % 256 = k - 268 := by omega
        obtain ⟨a1, a2⟩ := Adv_wr Z (a := 1024 * vrw V i 0 + 4 * (k - 268)) (n := 4) (v := b) (fun j hj => by rw [TT_p3 ho.2.2.1 ho.2.2.2.1 ho.2.2.2.2 (by omega) hj, show 268 + 256 * 0 + (k - 268) = k by omega, hp])
        obtain ⟨b1, b2⟩ := Adv_cp a1.1 hv
        refine ⟨_, Adv_trans a1 b1, ⟨fun o ho => by rw [hb]; exact b2 o ho, by omega, by omega, fun _ j hj => b1.2 _ (by omega) (a2 j hj), by omega⟩, fun K => ?_⟩
        have e4 : (k - 268) * 4 = 4 * (k - 268) := by omega
        simp (disch := omega) only [fMX12_showInode_0_169, fMX12_showInode_0_311, lit, litN, nI_ltI', nI_leI', nI_eqI, nI_clampI, n_or, if_neg, if_pos, r9, nI_sub, nI_div, nI_add, nI_mul, nI_sub_dm, n_sdm, e256, e4, put_i, obs, cp]
