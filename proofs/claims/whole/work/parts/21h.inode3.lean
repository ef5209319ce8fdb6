set_option maxRecDepth 4096 in
theorem tms_M {nb : Nat} {V : VV} (A : Stc nb V) {τ : XS} {f g : Nat → Nat} (R : RM nb V τ f) {i : Nat} (h1 : 1 ≤ i) (h2 : i ≤ vQ V * vG V) (hl : live V i) (P : Shp V i) :
    lfix (fun k48 t => fMX12_showInode_0_48 nb k48 t.1 t.2.1 t.2.2.1 t.2.2.2) FU (nI i, nI (inoA (vP V) (vG V) i), nI 0, XD (XI τ g) f) = lfix (fun k169 t => fMX12_showInode_0_169 nb k169 t.1 t.2.1 t.2.2.1 t.2.2.2.1 t.2.2.2.2.1 t.2.2.2.2.2) FU (nI i, nI (inoA (vP V) (vG V) i), nI (far0 V i), nI (fst0 V i), nI 0, XD (XI τ (wrs (inoA (vP V) (vG V) i) [(8, 4, vtm V (3 * i)), (12, 4, vtm V (3 * i + 1)), (16, 4, vtm V (3 * i + 2)), (26, 2, vlk V i), (28, 4, vtw V i), (88, 4, vsg V i), (92, 4, vdb V i)] g)) f) := by
  have hm := mn_lt A.1 A.2.2 hl
  have hA := inoA_lt A.1 h1 h2
  have hg := G_lt A.1
  have hi : i < 2100 := by omega
  have r8 : ∀ g, (XD (XI τ g) f).2.1 8 i = nI (vlk V i) := fun g => by rw [XD_k _ _ _ _ (by omega), XI_o _ _ (by omega)]; exact (R.2.2.1 i hi).2.2.1
  have r9 : ∀ g, (XD (XI τ g) f).2.1 9 i = nI (vmn V i) := fun g => by rw [XD_k _ _ _ _ (by omega), XI_o _ _ (by omega)]; exact (R.2.2.1 i hi).2.2.2.1
  have r10 : ∀ g, (XD (XI τ g) f).2.1 10 i = nI (fst0 V i) := fun g => by rw [XD_k _ _ _ _ (by omega), XI_o _ _ (by omega)]; exact (R.2.2.1 i hi).2.2.2.2.2.2.1
  have r12 : ∀ g, (XD (XI τ g) f).2.1 12 i = nI (vsg V i) := fun g => by rw [XD_k _ _ _ _ (by omega), XI_o _ _ (by omega)]; exact (R.2.2.1 i hi).2.2.2.2.1
  have r13 : ∀ g, (XD (XI τ g) f).2.1 13 i = nI (vdb V i) := fun g => by rw [XD_k _ _ _ _ (by omega), XI_o _ _ (by omega)]; exact (R.2.2.1 i hi).2.2.2.2.2.1
  have r14 : ∀ g, (XD (XI τ g) f).2.1 14 i = nI (far0 V i) := fun g => by rw [XD_k _ _ _ _ (by omega), XI_o _ _ (by omega)]; exact (R.2.2.1 i hi).2.2.2.2.2.2.2
  have rt : ∀ g x, x < 6300 → (XD (XI τ g) f).2.2 0 x = Int64.ofNat (vtm V x) := fun g x hx => R.2.2.2.2.2.1 x hx
  have hal : ∀ g, fMX12_all nb (nI (vmn V i)) (XD (XI τ g) f) = some (nI (alln (vmn V i)), XD (XI τ g) f) := fun g => all_M nb _ (by omega)
  have htw := P.2.2.2
  generalize hAA : inoA (vP V) (vG V) i = AA at *
  have key : ∃ g', g' = wrs AA [(8, 4, vtm V (3 * i)), (12, 4, vtm V (3 * i + 1)), (16, 4, vtm V (3 * i + 2))] g ∧ ∀ u : Unit, lfix ((fun _ k48 t => fMX12_showInode_0_48 nb k48 t.1 t.2.1 t.2.2.1 t.2.2.2) u) FU (nI i, nI AA, nI 0, XD (XI τ g) f) = (fun (_ : Unit) g' => lfix (fun k169 t => fMX12_showInode_0_169 nb k169 t.1 t.2.1 t.2.2.1 t.2.2.2.1 t.2.2.2.2.1 t.2.2.2.2.2) FU (nI i, nI AA, nI (far0 V i), nI (fst0 V i), nI 0, XD (XI τ (wrs AA [(26, 2, vlk V i), (28, 4, vtw V i), (88, 4, vsg V i), (92, 4, vdb V i)] g')) f)) u g' := by
    refine lfor (κ := Unit) (fun _ k48 t => fMX12_showInode_0_48 nb k48 t.1 t.2.1 t.2.2.1 t.2.2.2) (fun k (g' : Nat → Nat) => (nI i, nI AA, nI k, XD (XI τ g') f)) (fun _ g' => lfix (fun k169 t => fMX12_showInode_0_169 nb k169 t.1 t.2.1 t.2.2.1 t.2.2.2.1 t.2.2.2.2.1 t.2.2.2.2.2) FU (nI i, nI AA, nI (far0 V i), nI (fst0 V i), nI 0, XD (XI τ (wrs AA [(26, 2, vlk V i), (28, 4, vtw V i), (88, 4, vsg V i), (92, 4, vdb V i)] g')) f)) 3 (fun k g' => g' = wrs AA ([(8, 4, vtm V (3 * i)), (12, 4, vtm V (3 * i + 1)), (16, 4, vtm V (3 * i + 2))].take k) g) ?_ ?_ 0 g FU (Nat.zero_le _) rfl (by unfold FU; omega)
    · rintro k g' hk rfl
      have hk3 : k = 0 ∨ k = 1 ∨ k = 2 := by omega
      rcases hk3 with q | q | q <;> subst q
      · refine ⟨_, rfl, fun _ K => ?_⟩
        simp (disch := omega) only [fMX12_showInode_0_48, lit, litN, nI_ltI', nI_leI', nI_eqI, nI_clampI, n_or, if_neg, nI_add, nI_mul, rt, put_n, obs]
        rfl
      · refine ⟨_, rfl, fun _ K => ?_⟩
        simp (disch := omega) only [fMX12_showInode_0_48, lit, litN, nI_ltI', nI_leI', nI_eqI, nI_clampI, n_or, if_neg, nI_add, nI_mul, rt, put_n, obs]
        rfl
      · refine ⟨_, rfl, fun _ K => ?_⟩
        simp (disch := omega) only [fMX12_showInode_0_48, lit, litN, nI_ltI', nI_leI', nI_eqI, nI_clampI, n_or, if_neg, nI_add, nI_mul, rt, put_n, obs]
        rfl
    · rintro g' rfl _ K
      simp (disch := omega) only [fMX12_showInode_0_48, lit, litN, nI_ltI', nI_leI', nI_eqI, nI_clampI, n_or, if_neg, if_pos, nI_add, nI_mul, r8, r9, r10, r12, r13, r14, hal, put_i, obs]
      rw [← htw]
      rfl
  obtain ⟨g', rfl, h⟩ := key
  exact h ()
set_option maxRecDepth 4096 in
theorem ino_M {nb : Nat} {V : VV} (A : Stc nb V) {τ : XS} {f g : Nat → Nat} (R : RM nb V τ f) (Z : Zr nb V g) {i : Nat} (h1 : 1 ≤ i) (h2 : i ≤ vQ V * vG V) (hl : live V i) (P : Shp V i) :
    ∃ g', Adv nb V g g' ∧ (∀ o, (o < 40 ∨ (88 ≤ o ∧ o < 128)) → g' (inoA (vP V) (vG V) i + o) = TT nb V (inoA (vP V) (vG V) i + o)) ∧ (∀ k, k < vmn V i → cov nb V i g' k) ∧ fMX12_showInode_0 nb (nI i) (XD (XI τ g) f) = some (XD (XI τ g') f) := by
  have hm := mn_lt A.1 A.2.2 hl
  have hA := inoA_lt A.1 h1 h2
  have hg := G_lt A.1
  have hi : i < 2100 := by omega
  have r6 : ∀ g, (XD (XI τ g) f).2.1 6 i = nI (vkd V i) := fun g => by rw [XD_k _ _ _ _ (by omega), XI_o _ _ (by omega)]; exact (R.2.2.1 i hi).1
  have r7 : ∀ g, (XD (XI τ g) f).2.1 7 i = nI (vsz V i) := fun g => by rw [XD_k _ _ _ _ (by omega), XI_o _ _ (by omega)]; exact (R.2.2.1 i hi).2.1
  have r9 : ∀ g, (XD (XI τ g) f).2.1 9 i = nI (vmn V i) := fun g => by rw [XD_k _ _ _ _ (by omega), XI_o _ _ (by omega)]; exact (R.2.2.1 i hi).2.2.2.1
  have hb : ∀ q ∈ inoF V i, q.1 + q.2.1 ≤ 128 ∧ (q.1 + q.2.1 ≤ 40 ∨ 88 ≤ q.1) := by unfold inoF; simp
  obtain ⟨b1, b2⟩ := Adv_wrs (nb := nb) (V := V) (base := inoA (vP V) (vG V) i) (inoF V i) g Z (fun q hq => by have := hb q hq; omega) (fun q hq j hj => by
    have := hb q hq
    rw [Nat.add_assoc, TT_fld A.1 h1 h2 hl (by omega)]; exact fld_get _ (Srt_ino V i) q hq j hj)
  have key : ∃ g', (Adv nb V (wrs (inoA (vP V) (vG V) i) (inoF V i) g) g' ∧ ∀ k, k < vmn V i → cov nb V i g' k) ∧ ∀ u : Unit, lfix ((fun _ k169 t => fMX12_showInode_0_169 nb k169 t.1 t.2.1 t.2.2.1 t.2.2.2.1 t.2.2.2.2.1 t.2.2.2.2.2) u) FU (nI i, nI (inoA (vP V) (vG V) i), nI (far0 V i), nI (if 0 < vmn V i then vbl V i 0 else 0), nI 0, XD (XI τ (wrs (inoA (vP V) (vG V) i) (inoF V i) g)) f) = some (XD (XI τ g') f) := by
    refine lfor (κ := Unit) (fun _ k169 t => fMX12_showInode_0_169 nb k169 t.1 t.2.1 t.2.2.1 t.2.2.2.1 t.2.2.2.2.1 t.2.2.2.2.2) (fun k (g' : Nat → Nat) => (nI i, nI (inoA (vP V) (vG V) i), nI (far0 V i), nI (if k < vmn V i then vbl V i k else 0), nI k, XD (XI τ g') f)) (fun _ g' => some (XD (XI τ g') f)) (vmn V i) (fun k g' => Adv nb V (wrs (inoA (vP V) (vG V) i) (inoF V i) g) g' ∧ ∀ k', k' < k → cov nb V i g' k') ?_ ?_ 0 _ FU (Nat.zero_le _) ⟨Adv_rfl b1.1, by omega⟩ (by unfold FU; omega)
    · rintro k g' hk ⟨a1, a2⟩
      obtain ⟨g2, c1, c2, c3⟩ := blk_M A R a1.1 h1 h2 hl P hk
      refine ⟨g2, ⟨Adv_trans a1 c1, fun k' hk' => ?_⟩, fun _ K => ?_⟩
      · by_cases c : k' = k
        · rw [c]; exact c2
        · exact cov_adv A h1 h2 hl P (by omega) c1 (a2 k' (by omega))
      · show fMX12_showInode_0_169 nb K (nI i) (nI (inoA (vP V) (vG V) i)) (nI (far0 V i)) (nI (if k < vmn V i then vbl V i k else 0)) (nI k) (XD (XI τ g') f) = _
        rw [if_pos hk]; exact c3 K
    · rintro g' ⟨a1, a2⟩ _ K
      simp (disch := omega) only [fMX12_showInode_0_169, lit, litN, nI_ltI', nI_leI', nI_eqI, nI_clampI, n_or, if_neg, r9, if_pos]
  obtain ⟨g', ⟨a1, a2⟩, h⟩ := key
  refine ⟨g', Adv_trans b1 a1, fun o ho => ?_, a2, ?_⟩
  · rcases fld_cov (inoF V i) o with q | ⟨q, q1, q2⟩
    · rcases a1.1 (inoA (vP V) (vG V) i + o) (by omega) with e | e
      · exact e
      · rw [e, TT_fld A.1 h1 h2 hl ho, q]
    · have := b2 q q1 (o - q.1) (by omega)
      rw [show inoA (vP V) (vG V) i + q.1 + (o - q.1) = inoA (vP V) (vG V) i + o by omega] at this
      exact a1.2 _ (by omega) this
  · have h' := h ()
    have e0 : (if 0 < vmn V i then vbl V i 0 else 0) = fst0 V i := by
      unfold fst0
      by_cases c : vmn V i = 0
      · rw [if_neg (by omega), if_pos c]
      · rw [if_pos (by omega), if_neg c]
    rw [e0] at h'
    have ia := inodeAt_M A.1 (s := XD (XI τ g) f) h1 h2 R.1.2.1 R.1.2.2.1
    have hk4 : vkd V i = 2 ∨ vkd V i = 1 := hl.symm
    unfold inoF at h'
    rcases hk4 with q | q
    · rw [if_pos q] at h'
      rw [q] at r6
      have tm := tms_M (g := wrN (wrN g (inoA (vP V) (vG V) i) 2 16877) (inoA (vP V) (vG V) i + 4) 4 (vsz V i)) A R h1 h2 hl P
      simp (disch := omega) only [fMX12_showInode_0, fMX12_showInode_0_0, fMX12_showInode_0_28, ia, obs, lit, litN, litL, nI_ltI', nI_leI', nI_eqI, nI_clampI, n_or, if_neg, r6, r7, if_true, nI_add, put_i, put_n]
      exact tm.trans h'
    · rw [if_neg (by omega)] at h'
      rw [q] at r6
      have tm := tms_M (g := wrN (wrN g (inoA (vP V) (vG V) i) 2 33188) (inoA (vP V) (vG V) i + 4) 4 (vsz V i)) A R h1 h2 hl P
      simp (disch := omega) only [fMX12_showInode_0, fMX12_showInode_0_0, fMX12_showInode_0_28, ia, obs, lit, litN, litL, nI_ltI', nI_leI', nI_eqI, nI_clampI, n_or, if_neg, r6, r7, nI_add, put_i, put_n]
      exact tm.trans h'
