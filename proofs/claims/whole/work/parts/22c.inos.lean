set_option maxRecDepth 4096 in
theorem length_X (nb : Nat) (σ : XS) : fXX1_length_1 nb σ = some (nI (nb * 1024), σ) := rfl
set_option maxRecDepth 4096 in
theorem inoF_z (V : VV) (i o : Nat) (h : (2 ≤ o ∧ o < 4) ∨ (20 ≤ o ∧ o < 26) ∨ (32 ≤ o ∧ o < 40) ∨ (96 ≤ o ∧ o < 128)) : fld (inoF V i) o = 0 := by
  rcases fld_cov (inoF V i) o with q | ⟨q, q1, q2⟩
  · exact q
  · unfold inoF at q1
    simp only [List.mem_cons, List.not_mem_nil, or_false] at q1
    rcases q1 with rfl | rfl | rfl | rfl | rfl | rfl | rfl | rfl | rfl <;> (have q3 := q2.1; have q4 := q2.2; simp only at q3 q4; omega)
set_option maxRecDepth 4096 in
theorem ino_z {nb : Nat} {V : VV} {d : Nat → Nat} (B : Bas nb V) (D : DX nb V d) {i : Nat} (h1 : 1 ≤ i) (h2 : i ≤ vQ V * vG V) (hl : live V i) {x : Nat} (hx : inoA (vP V) (vG V) i ≤ x) (h : (2 ≤ x - inoA (vP V) (vG V) i ∧ x - inoA (vP V) (vG V) i < 4) ∨ (20 ≤ x - inoA (vP V) (vG V) i ∧ x - inoA (vP V) (vG V) i < 26) ∨ (32 ≤ x - inoA (vP V) (vG V) i ∧ x - inoA (vP V) (vG V) i < 40) ∨ (96 ≤ x - inoA (vP V) (vG V) i ∧ x - inoA (vP V) (vG V) i < 128)) : d x % 256 = 0 := by
  have e := ino_d B D h1 h2 (o := x - inoA (vP V) (vG V) i) (by omega)
  rw [show inoA (vP V) (vG V) i + (x - inoA (vP V) (vG V) i) = x by omega] at e
  rw [e, ino, if_pos hl, if_neg (by omega), inoF_z V i _ h]
set_option maxRecDepth 4096 in
theorem ino_dz {nb : Nat} {V : VV} {d : Nat → Nat} (B : Bas nb V) (D : DX nb V d) {i : Nat} (h1 : 1 ≤ i) (h2 : i ≤ vQ V * vG V) (hl : ¬ live V i) {x : Nat} (hx : inoA (vP V) (vG V) i ≤ x) (h : x < inoA (vP V) (vG V) i + 128) : d x % 256 = 0 := by
  have e := ino_d B D h1 h2 (o := x - inoA (vP V) (vG V) i) (by omega)
  rw [show inoA (vP V) (vG V) i + (x - inoA (vP V) (vG V) i) = x by omega] at e
  rw [e, ino, if_neg hl]
set_option maxRecDepth 4096 in
theorem inoH_X {nb : Nat} {V : VV} (A : Stc nb V) {ρ : XS} {d : Nat → Nat} (D : DX nb V d) {i : Nat} (h1 : 1 ≤ i) (h2 : i ≤ vQ V * vG V) (hl : live V i) (P : Shp V i) (hz : prt (vsz V i) = vmn V i) {c : Nat → Nat} (C : CI nb V i c) :
    fXX7_inodeHolds_10 nb (nI (inoA (vP V) (vG V) i)) (XD (XC ρ c) d) = some (nI 1, XD (XC ρ (oin V i c (vmn V i))) d) := by
  have hm := mn_lt A.1 A.2.2 hl
  have hA := inoA_lt A.1 h1 h2
  have hg := G_lt A.1
  have hs : vsz V i ≤ nb * 1024 := by unfold prt at hz; omega
  have hal := alln_lt (n := vmn V i) (by omega)
  have htw := P.2.2.2
  have px := ptrs_X A (ρ := ρ) D h1 h2 hl P C
  generalize hXX : XC ρ (oin V i c (vmn V i)) = ρ2 at *
  generalize hX1 : XC ρ c = ρ1 at *
  have g2 := get2_X (nb := nb) (a := inoA (vP V) (vG V) i) ρ1 d (by omega) (by omega)
  rw [rd_mode A.1 D h1 h2 hl] at g2
  have g4 := get4_X (nb := nb) (a := inoA (vP V) (vG V) i + 4) ρ1 d (by omega) (by omega)
  rw [rd_sz A.1 D h1 h2 hl (by omega)] at g4
  have g28 := get4_X (nb := nb) (a := inoA (vP V) (vG V) i + 28) ρ1 d (by omega) (by omega)
  rw [rd_tw A.1 D h1 h2 hl (by omega), htw] at g28
  have bf := blocksFor_X nb (XD ρ1 d) (s := vsz V i) (by omega)
  rw [hz] at bf
  have wi := withInd_X nb (XD ρ1 d) (n := vmn V i) (by omega)
  have ln := length_X nb (XD ρ1 d)
  have z1 := isZero_X (nb := nb) ρ1 d (a := inoA (vP V) (vG V) i + 2) (b := inoA (vP V) (vG V) i + 4) (by omega) (by omega) (by omega) (by omega) (fun x x1 x2 => ino_z A.1 D h1 h2 hl (by omega) (by omega))
  have z2 := isZero_X (nb := nb) ρ1 d (a := inoA (vP V) (vG V) i + 8 + 12) (b := inoA (vP V) (vG V) i + 26) (by omega) (by omega) (by omega) (by omega) (fun x x1 x2 => ino_z A.1 D h1 h2 hl (by omega) (by omega))
  have z3 := isZero_X (nb := nb) ρ1 d (a := inoA (vP V) (vG V) i + 28 + 4) (b := inoA (vP V) (vG V) i + 40) (by omega) (by omega) (by omega) (by omega) (fun x x1 x2 => ino_z A.1 D h1 h2 hl (by omega) (by omega))
  have z4 := isZero_X (nb := nb) ρ1 d (a := inoA (vP V) (vG V) i + 92 + 4) (b := inoA (vP V) (vG V) i + 128) (by omega) (by omega) (by omega) (by omega) (fun x x1 x2 => ino_z A.1 D h1 h2 hl (by omega) (by omega))
  have T : fXX7_inodeHolds_10_33 nb (nI (inoA (vP V) (vG V) i)) (nI (vsz V i)) (XD ρ1 d) = some (nI 1, XD ρ2 d) := by
    have k10 : (nI 1 = nI 0) = False := eq_false nI10
    simp (disch := omega) only [fXX7_inodeHolds_10_33, lit, litN, nI_ltI', if_neg, ln, obs, nI_leI', if_pos, bf, nI_add, z1, k10, if_false, z2, g28, wi, nI_mul, if_true, z3, z4, px]
  by_cases q : vkd V i = 2
  · rw [if_pos q] at g2
    simp only [fXX7_inodeHolds_10, fXX7_inodeHolds_10_0, lit, litN, g2, obs, nI_add, g4, if_true, T]
  · rw [if_neg q] at g2
    have k1 : (nI 33188 = nI 16877) = False := eq_false (by decide +kernel)
    simp only [fXX7_inodeHolds_10, fXX7_inodeHolds_10_0, lit, litN, g2, obs, nI_add, g4, k1, if_false, if_true, T]
set_option maxRecDepth 4096 in
theorem CI_dead {nb : Nat} {V : VV} (A : Stc nb V) {i : Nat} (hl : ¬ live V i) {c : Nat → Nat} (C : CI nb V i c) : CI nb V (i + 1) c := by
  obtain ⟨O1, O2, O3, O4, O5, O6, O7, O8⟩ := A.2.2
  intro b hb
  rw [C b hb]
  by_cases q : vot V b = 2 ∨ (3 ≤ vot V b ∧ vot V b ≤ 6 ∧ voi V b < i)
  · rw [if_pos q, if_pos (by omega)]
  · rw [if_neg q, if_neg]
    intro z
    have e : voi V b = i ∧ (vot V b = 3 ∨ vot V b = 4 ∨ vot V b = 5 ∨ vot V b = 6) := by omega
    apply hl
    rw [← e.1]
    rcases e.2 with w | w | w | w
    · exact (O2 b hb w).1
    · exact (O4 b hb w).1
    · exact (O6 b hb w).1
    · exact (O8 b hb w).1
set_option maxRecDepth 4096 in
theorem inosH_X {nb : Nat} {V : VV} (G : Good nb V) {ρ : XS} (S : Sc V ρ) {d : Nat → Nat} (D : DX nb V d) {c : Nat → Nat} (C : CI nb V 1 c) :
    ∃ c', CI nb V (vQ V * vG V + 1) c' ∧ fXX7_inodesHold_10 nb (XD (XC ρ c) d) = some (nI 1, XD (XC ρ c') d) := by
  have A := G.1
  have hg := G_lt A.1
  obtain ⟨k1, k2, k3, k4, k5, k6⟩ := G.2.2.2.2.2.1
  have SC : ∀ c, Sc V (XC ρ c) := fun _ => S
  have k10 : (nI 1 = nI 0) = False := eq_false nI10
  have key : ∃ c', (1 ≤ vQ V * vG V + 1 ∧ CI nb V (vQ V * vG V + 1) c') ∧ ∀ u : Unit, lfix ((fun _ k2 t => fXX7_inodesHold_10_2 nb k2 t.1 t.2) u) FU (nI 1, XD (XC ρ c) d) = some (nI 1, XD (XC ρ c') d) := by
    refine lfor (κ := Unit) (fun _ k2 t => fXX7_inodesHold_10_2 nb k2 t.1 t.2) (fun i (c' : Nat → Nat) => (nI i, XD (XC ρ c') d)) (fun _ c' => some (nI 1, XD (XC ρ c') d)) (vQ V * vG V + 1) (fun i c' => 1 ≤ i ∧ CI nb V i c') ?_ ?_ 1 c FU (by omega) ⟨by omega, C⟩ (by unfold FU; omega)
    · rintro i c' hi ⟨h1, C'⟩
      have h2 : i ≤ vQ V * vG V := by omega
      have iX := inodes_X A.1 (SC c') d
      have aX := inodeAt_X A.1 (SC c') d h1 (by omega)
      have uX := isUsed5_X A.1 (SC c') D h1 h2
      have hA := inoA_lt A.1 h1 h2
      by_cases hl : live V i
      · have W := inoH_X A (ρ := ρ) D h1 h2 hl (G.2.2.2.1 i hl).1 (G.2.2.2.1 i hl).2 C'
        refine ⟨_, ⟨by omega, oin_CI A hl (G.2.2.2.1 i hl).1 C'⟩, fun _ K => ?_⟩
        have T : fXX7_inodesHold_10_44 nb K (nI i) (nI (inoA (vP V) (vG V) i)) (XD (XC ρ c') d) = K (nI (i + 1), XD (XC ρ (oin V i c' (vmn V i))) d) := by
          simp only [fXX7_inodesHold_10_44, fXX7_inodesHold_10_49, fXX7_inodesHold_10_83, lit, litN, k10, if_false, W, obs, nI_add]
        by_cases q : i = 2
        · simp (disch := omega) only [fXX7_inodesHold_10_2, lit, litN, iX, obs, nI_ltI', if_neg, aX, nI_eqI, if_pos, T]
        · have q2 : 12 ≤ i := by
            rcases Nat.lt_or_ge i 12 with w | w
            · have := k4 i h1 w q; unfold live at hl; omega
            · exact w
          rw [if_pos (by unfold live at hl; omega)] at uX
          simp (disch := omega) only [fXX7_inodesHold_10_2, lit, litN, iX, obs, nI_ltI', nI_leI', if_neg, aX, nI_eqI, uX, if_true, if_false, k10, T]
      · have W := isZero_X (nb := nb) (XC ρ c') d (a := inoA (vP V) (vG V) i) (b := inoA (vP V) (vG V) i + 128) (by omega) (by omega) (by omega) (by omega) (fun x x1 x2 => ino_dz A.1 D h1 h2 hl x1 x2)
        refine ⟨c', ⟨by omega, CI_dead A hl C'⟩, fun _ K => ?_⟩
        have T : fXX7_inodesHold_10_48 nb K (nI i) (nI (inoA (vP V) (vG V) i)) (XD (XC ρ c') d) = K (nI (i + 1), XD (XC ρ c') d) := by
          simp only [fXX7_inodesHold_10_48, fXX7_inodesHold_10_49, fXX7_inodesHold_10_83, lit, litN, k10, if_false, if_true, W, obs, nI_add]
        have q : i ≠ 2 := fun e => hl (by rw [e]; exact .inr k5)
        by_cases q2 : i ≤ 11
        · simp (disch := omega) only [fXX7_inodesHold_10_2, lit, litN, iX, obs, nI_ltI', nI_leI', if_neg, if_pos, aX, nI_eqI, T]
        · have z : vkd V i = 0 := by
            have := k1 i; have := k6 i (by omega); unfold live at hl; omega
          rw [if_neg (by omega)] at uX
          simp (disch := omega) only [fXX7_inodesHold_10_2, lit, litN, iX, obs, nI_ltI', nI_leI', if_neg, if_pos, aX, nI_eqI, uX, if_true, if_false, k10, T]
    · rintro c' ⟨h1, C'⟩ _ K
      have iX := inodes_X A.1 (SC c') d
      simp (disch := omega) only [fXX7_inodesHold_10_2, lit, litN, iX, obs, nI_ltI', if_pos]
  obtain ⟨c', ⟨_, h⟩, h2⟩ := key
  refine ⟨c', h, ?_⟩
  have h3 := h2 ()
  simp only [fXX7_inodesHold_10, fXX7_inodesHold_10_0, lit, litN]
  exact h3
