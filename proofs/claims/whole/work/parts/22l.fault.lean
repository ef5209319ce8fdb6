set_option maxRecDepth 4096 in
theorem fillA_X {nb : Nat} (σ : XS) (d : Nat → Nat) : ∃ ρ, keepH σ ρ ∧ (∀ j, j < 2065 → ρ.2.1 4 j = nI 0) ∧ fXJ2_fill__14 nb (nI 0) (XD σ d) = some (XD ρ d) := by
  have key : ∃ ρ, (keepH σ ρ ∧ ∀ j, j < 2065 → ρ.2.1 4 j = nI 0) ∧ ∀ u : Unit, lfix ((fun _ k5 t => fXJ2_fill__14_5 nb k5 t.1 t.2.1 t.2.2.1 t.2.2.2) u) FU (nI 0, nI 0, nI 2065, XD σ d) = some (XD ρ d) := by
    refine lfor (κ := Unit) (fun _ k5 t => fXJ2_fill__14_5 nb k5 t.1 t.2.1 t.2.2.1 t.2.2.2) (fun k (ρ : XS) => (nI 0, nI k, nI 2065, XD ρ d)) (fun _ ρ => some (XD ρ d)) 2065 (fun k ρ => keepH σ ρ ∧ ∀ j, j < k → ρ.2.1 4 j = nI 0) ?_ ?_ 0 σ FU (by omega) ⟨keepH_rfl σ, fun j hj => by omega⟩ (by unfold FU; omega)
    · rintro k ρ hk ⟨h1, h2⟩
      refine ⟨stA ρ 4 k (nI 0), ⟨keepH_trans h1 (keepH_A ρ k _), fun j hj => ?_⟩, fun _ K => ?_⟩
      · rw [stA_at]
        by_cases c : j = k
        · rw [if_pos ⟨rfl, c⟩]
        · rw [if_neg (fun z => c z.2)]; exact h2 j (by omega)
      · simp (disch := omega) only [fXJ2_fill__14_5, lit, litN, nI_ltI', nI_leI', nI_eqI, nI_clampI, n_or, if_neg, XD_A, nI_add]
    · rintro ρ ⟨h1, h2⟩ _ K
      simp (disch := omega) only [fXJ2_fill__14_5, lit, litN, nI_ltI', nI_leI', nI_eqI, nI_clampI, if_pos]
  obtain ⟨ρ, ⟨h1, h2⟩, h⟩ := key
  have h' := h ()
  refine ⟨ρ, h1, h2, ?_⟩
  simp only [fXJ2_fill__14, fXJ2_fill__14_0, lit, litN]
  exact h'
def keepP (σ ρ : XS) : Prop := ρ.1 = σ.1 ∧ (∀ k, k ≠ 5 → ρ.2.1 k = σ.2.1 k) ∧ ρ.2.2 = σ.2.2
set_option maxRecDepth 4096 in
theorem fillB_X {nb : Nat} (σ : XS) (d : Nat → Nat) : ∃ ρ, keepP σ ρ ∧ (∀ j, j < 2065 → ρ.2.1 5 j = nI 0) ∧ fXJ2_fill__15 nb (nI 0) (XD σ d) = some (XD ρ d) := by
  have key : ∃ ρ, (keepP σ ρ ∧ ∀ j, j < 2065 → ρ.2.1 5 j = nI 0) ∧ ∀ u : Unit, lfix ((fun _ k5 t => fXJ2_fill__15_5 nb k5 t.1 t.2.1 t.2.2.1 t.2.2.2) u) FU (nI 0, nI 0, nI 2065, XD σ d) = some (XD ρ d) := by
    refine lfor (κ := Unit) (fun _ k5 t => fXJ2_fill__15_5 nb k5 t.1 t.2.1 t.2.2.1 t.2.2.2) (fun k (ρ : XS) => (nI 0, nI k, nI 2065, XD ρ d)) (fun _ ρ => some (XD ρ d)) 2065 (fun k ρ => keepP σ ρ ∧ ∀ j, j < k → ρ.2.1 5 j = nI 0) ?_ ?_ 0 σ FU (by omega) ⟨⟨rfl, fun _ _ => rfl, rfl⟩, fun j hj => by omega⟩ (by unfold FU; omega)
    · rintro k ρ hk ⟨h1, h2⟩
      refine ⟨stA ρ 5 k (nI 0), ⟨⟨h1.1, fun m hm => (stA_k _ _ _ _ hm).trans (h1.2.1 m hm), h1.2.2⟩, fun j hj => ?_⟩, fun _ K => ?_⟩
      · rw [stA_at]
        by_cases c : j = k
        · rw [if_pos ⟨rfl, c⟩]
        · rw [if_neg (fun z => c z.2)]; exact h2 j (by omega)
      · simp (disch := omega) only [fXJ2_fill__15_5, lit, litN, nI_ltI', nI_leI', nI_eqI, nI_clampI, n_or, if_neg, XD_A, nI_add]
    · rintro ρ ⟨h1, h2⟩ _ K
      simp (disch := omega) only [fXJ2_fill__15_5, lit, litN, nI_ltI', nI_leI', nI_eqI, nI_clampI, if_pos]
  obtain ⟨ρ, ⟨h1, h2⟩, h⟩ := key
  have h' := h ()
  refine ⟨ρ, h1, h2, ?_⟩
  simp only [fXJ2_fill__15, fXJ2_fill__15_0, lit, litN]
  exact h'
set_option maxRecDepth 4096 in
theorem XCe {ρ : XS} {c : Nat → Nat} (h : ρ.2.1 3 = fun b => nI (c b)) : XC ρ c = ρ := by
  unfold XC
  refine Prod.ext rfl (Prod.ext ?_ rfl)
  funext k
  show va_up ρ.2.1 3 (fun b => nI (c b)) k = _
  by_cases e : k = 3
  · subst e; rw [va_up_self, h]
  · rw [va_up_ne _ _ e]
def keepF (σ ρ : XS) : Prop := (∀ k, k ≠ 7 → ρ.1 k = σ.1 k) ∧ (∀ k, 6 ≤ k → ρ.2.1 k = σ.2.1 k)
set_option maxRecDepth 4096 in
theorem allH_X {nb : Nat} {V : VV} (G : Good nb V) {σ : XS} {d : Nat → Nat} (S : Sc V σ) (D : DX nb V d) {h : Nat} (hk : vkd V h = 2) : ∃ ρ, keepF σ ρ ∧ fXX7_allHolds_10 nb (nI h) (XD σ d) = some (nI 1, XD ρ d) := by
  have A := G.1
  have hg := G_lt A.1
  obtain ⟨O1, O2, O3, O4, O5, O6, O7, O8⟩ := A.2.2
  have k10 : (nI 1 = nI 0) = False := eq_false nI10
  obtain ⟨c0, hc0⟩ : ∃ c : Nat → Nat, ∀ b, σ.2.1 3 b = nI (c b) := ⟨fun b => Classical.choose (nI_all (σ.2.1 3 b)), fun b => (Classical.choose_spec (nI_all (σ.2.1 3 b))).2⟩
  obtain ⟨c1, x1, x2⟩ := claimFixed_X A.1 S c0 d hc0
  obtain ⟨ρ2, y1, y2, y3⟩ := fillA_X (nb := nb) (XC σ c1) d
  obtain ⟨ρ3, z1, z2, z3⟩ := fillB_X (nb := nb) ρ2 d
  have e3 : ρ3.2.1 3 = fun b => nI (c1 b) := by rw [z1.2.1 3 (by omega), y1.2.1 3 (by omega)]; rfl
  have s3 : ρ3.1 = σ.1 := z1.1.trans y1.1
  have S3 : Sc V ρ3 := by unfold Sc; rw [s3]; exact S
  have C1 : CI nb V 1 c1 := fun b hb => by
    rw [x1 b hb]
    by_cases q : vot V b = 2
    · rw [if_pos q, if_pos (.inl q)]
    · rw [if_neg q, if_neg]
      rintro (w | ⟨w1, w2, w3⟩)
      · exact q w
      · have hl : live V (voi V b) := by
          rcases (show vot V b = 3 ∨ vot V b = 4 ∨ vot V b = 5 ∨ vot V b = 6 by omega) with w | w | w | w
          · exact (O2 b hb w).1
          · exact (O4 b hb w).1
          · exact (O6 b hb w).1
          · exact (O8 b hb w).1
        have := (G.ino hl).1; omega
  obtain ⟨c4, u1, u2⟩ := inosH_X G S3 D C1
  rw [XCe e3] at u2
  obtain ⟨ρ5, v1, v2, v3, v4⟩ := dirsH_X G (σ := XC ρ3 c4) (show Sc V (XC ρ3 c4) from S3) D (fun j hj => by rw [XC_o _ _ (by omega), z1.2.1 4 (by omega)]; exact y2 j hj) (fun j hj => by rw [XC_o _ _ (by omega)]; exact z2 j hj)
  have S5 : Sc V ρ5 := keepD_Sc v1 (show Sc V (XC ρ3 c4) from S3)
  have t := treeH_X G S5 D v2 v3
  have m := mapsH_X G S5 D u1 (fun b _ => by rw [v1.2.1 3 (by omega) (by omega) (by omega)]; exact congrFun (va_up_self ρ3.2.1 3 (fun b => nI (c4 b))) b)
  obtain ⟨e, hh⟩ := headsH_X G S5 D
  have hin := G.ino (i := h) (.inr hk)
  have iD := isDir_X A.1 (show Sc V (XE ρ5 e) from S5) D hin.1 hin.2.1
  rw [if_pos hk] at iD
  refine ⟨XE ρ5 e, ⟨fun k hk => ?_, fun k hk => ?_⟩, ?_⟩
  · show ρ5.1 k = _
    rw [v1.1 k hk]; exact congrFun s3 k
  · rw [XE_o _ _ (by omega), v1.2.1 k (by omega) (by omega) (by omega), XC_o _ _ (by omega), z1.2.1 k (by omega), y1.2.1 k (by omega), XC_o _ _ (by omega)]
  · simp only [fXX7_allHolds_10, fXX7_allHolds_10_0, lit, litN, x2, obs, y3, z3, u2, k10, if_false, v4, t, m, hh, iD]
set_option maxRecDepth 4096 in
theorem INV_F {nb : Nat} {V : VV} {σ τ ρ : XS} {d f : Nat → Nat} {h : Nat} (I : INV nb σ τ) (H : VolR nb V σ τ d f h) (k : keepF σ ρ) : INV nb (XD ρ d) (stS τ 0 (nI 0)) := by
  obtain ⟨g, hg⟩ := I.2.1
  obtain ⟨w, r, t, t1, t2, t3, t4, t5, t6, t7⟩ := I.1
  obtain ⟨G, hd, D, S, m1, h1, hkd, hf, R, h9, sh⟩ := H
  refine ⟨⟨w, r, t, t1, (k.1 8 (by omega)).trans t2, t3, fun j hj => ?_, t5, fun j hj => ?_, t7⟩, ⟨g, hg⟩, .inr ⟨V, d, f, h, G, rfl, D, ?_, (k.1 0 (by omega)).trans m1, (k.1 1 (by omega)).trans h1, hkd, hf, RM_S (by omega) R, h9, sh⟩⟩
  · rw [XD_o _ _ (by omega), k.2 6 (by omega)]; exact t4 j hj
  · rw [XD_o _ _ (by omega), k.2 7 (by omega)]; exact t6 j hj
  · show Sc V ρ
    unfold Sc; rw [k.1 2 (by omega), k.1 3 (by omega), k.1 4 (by omega), k.1 5 (by omega), k.1 6 (by omega)]; exact S
set_option maxRecDepth 4096 in
theorem p_fault (nb : Nat) : St_fault nb (INV nb) := by
  rintro σ τ I
  rcases I.2.2 with ⟨h0, h2, hd, f, hf⟩ | ⟨V, d, f, h, H⟩
  · refine ⟨(-nI 1, σ), (-nI 1, stS τ 0 (nI 0)), ?_, ?_, rfl, INV_nm I h0 h2 hd hf (keepT_S τ _ (.inl rfl))⟩
    · simp only [fXX0_fault_0, fXX0_fault_0_0, h0, lit, litN, if_true]
    · simp only [fMX12_fault_0, fMX12_fault_0_0, h2, lit, litN, if_true]
  · have H0 := H
    obtain ⟨G, hd, D, S, m1, h1, hkd, hf, R, h9, sh⟩ := H
    obtain ⟨ρ, k, e⟩ := allH_X G S D hkd
    rw [XDe hd] at e
    have k10 : (nI 1 = nI 0) = False := eq_false nI10
    refine ⟨(nI 0, XD ρ d), (nI 0, stS τ 0 (nI 0)), ?_, ?_, rfl, INV_F I H0 k⟩
    · simp only [fXX0_fault_0, fXX0_fault_0_0, m1, h1, lit, litN, k10, if_false, e, obs]
    · simp only [fMX12_fault_0, fMX12_fault_0_0, RM1 G R, lit, litN, k10, if_false]
