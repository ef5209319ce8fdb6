def clm (V : VV) (i : Nat) : Nat → Nat
  | 0 => i
  | k + 1 => vpar V (clm V i k)
set_option maxRecDepth 4096 in
theorem clm_dir {nb : Nat} {V : VV} (G : Good nb V) {i : Nat} (hk : vkd V i = 2) : ∀ k, vkd V (clm V i k) = 2 := by
  intro k
  induction k with
  | zero => exact hk
  | succ k ih => exact (par_dir G (.inr ih)).1
set_option maxRecDepth 4096 in
theorem clm_dp {nb : Nat} {V : VV} (G : Good nb V) {i : Nat} (hk : vkd V i = 2) (k : Nat) : ∀ m, (∀ j, j < k + (m + 1) → clm V i j ≠ 2) → vdp V (clm V i (k + (m + 1))) < vdp V (clm V i k) := by
  have stp : ∀ j, clm V i j ≠ 2 → vdp V (clm V i (j + 1)) < vdp V (clm V i j) := fun j hj => G.2.2.2.2.2.2.2.2.2.2.1 _ (clm_dir G hk j) hj
  intro m
  induction m with
  | zero => intro h; exact stp k (h k (by omega))
  | succ m ih =>
    intro h
    have h1 := ih (fun j hj => h j (by omega))
    have h2 := stp (k + (m + 1)) (h _ (by omega))
    have : vdp V (clm V i (k + (m + 1 + 1))) < vdp V (clm V i (k + (m + 1))) := h2
    omega
set_option maxRecDepth 4096 in
theorem clm_end {nb : Nat} {V : VV} (G : Good nb V) {i : Nat} (hk : vkd V i = 2) : ∃ m, m ≤ 2060 ∧ clm V i m = 2 ∧ ∀ k, k < m → clm V i k ≠ 2 := by
  have hg := G_lt G.1.1
  obtain ⟨k1, k2, k3, k4, k5, k6⟩ := G.2.2.2.2.2.1
  by_cases h : ∃ k, k ≤ 2060 ∧ clm V i k = 2
  · obtain ⟨k, h1, h2⟩ := h
    obtain ⟨m, m1, m2, m3⟩ := least (p := fun k => clm V i k = 2) k h2
    exact ⟨m, by omega, m2, m3⟩
  · exfalso
    have hne : ∀ k, k ≤ 2060 → clm V i k ≠ 2 := fun k hk e => h ⟨k, hk, e⟩
    have hr : ∀ k, k ≤ 2060 → 12 ≤ clm V i k ∧ clm V i k ≤ 2064 := fun k hk' => by
      have e := clm_dir G hk k
      have hi := G.ino (i := clm V i k) (.inr e)
      refine ⟨?_, by omega⟩
      rcases Nat.lt_or_ge (clm V i k) 12 with w | w
      · rw [k4 _ hi.1 w (hne k hk')] at e; omega
      · exact w
    have hinj : ∀ k l, k < l → l < 2060 → clm V i k ≠ clm V i l := fun k l h1 h2 e => by
      have := clm_dp G hk k (l - k - 1) (fun j hj => hne j (by omega))
      rw [show k + (l - k - 1 + 1) = l by omega, ← e] at this; omega
    have := pig 2053 2060 (fun k => clm V i k - 12) (fun k hk' => by have := hr k (by omega); show clm V i k - 12 < 2053; omega) (fun k l h1 h2 e => by
      have e : clm V i k - 12 = clm V i l - 12 := e
      have a := hr k (by omega); have b := hr l (by omega)
      rcases Nat.lt_trichotomy k l with w | w | w
      · exact absurd (by omega) (hinj k l w h2)
      · exact w
      · exact absurd (by omega) (hinj l k w h1))
    omega
set_option maxRecDepth 4096 in
theorem holder_X {nb : Nat} {ρ : XS} (d : Nat → Nat) {j : Nat} {v : Int32} (hj : j < 2065) (h : ρ.2.1 4 j = v) : fXX7_holderOf_10 nb (nI j) (XD ρ d) = some (v, XD ρ d) := by
  have e : (XD ρ d).2.1 4 j = v := by rw [XD_o _ _ (by omega)]; exact h
  simp (disch := omega) only [fXX7_holderOf_10, fXX7_holderOf_10_0, lit, litN, nI_ltI', nI_leI', nI_eqI, nI_clampI, if_neg, n_or, e]
set_option maxRecDepth 4096 in
theorem parent_X {nb : Nat} {ρ : XS} (d : Nat → Nat) {j : Nat} {v : Int32} (hj : j < 2065) (h : ρ.2.1 5 j = v) : fXX7_parentOf_10 nb (nI j) (XD ρ d) = some (v, XD ρ d) := by
  have e : (XD ρ d).2.1 5 j = v := by rw [XD_o _ _ (by omega)]; exact h
  simp (disch := omega) only [fXX7_parentOf_10, fXX7_parentOf_10_0, lit, litN, nI_ltI', nI_leI', nI_eqI, nI_clampI, if_neg, n_or, e]
set_option maxRecDepth 4096 in
theorem parentH_X {nb : Nat} {V : VV} (G : Good nb V) {ρ : XS} (d : Nat → Nat) (hH : ∀ j, j < 2065 → ρ.2.1 4 j = nI (if 12 ≤ j ∧ live V j then vpar V j else 0)) (hP : ∀ j, j < 2065 → ρ.2.1 5 j = nI (if vkd V j = 2 then vpar V j else 0)) {i : Nat} (hk : vkd V i = 2) (hi : 12 ≤ i) :
    fXX7_parentHolds_10 nb (nI i) (XD ρ d) = some (nI 1, XD ρ d) := by
  have hg := G_lt G.1.1
  obtain ⟨k1, k2, k3, k4, k5, k6⟩ := G.2.2.2.2.2.1
  have hin := G.ino (i := i) (.inr hk)
  have h1 := hH i (by omega)
  rw [if_pos ⟨hi, .inr hk⟩] at h1
  have h2 := hP i (by omega)
  rw [if_pos hk] at h2
  have ho := holder_X (nb := nb) d (by omega) h1
  have pa := parent_X (nb := nb) d (by omega) h2
  obtain ⟨m, m1, m2, m3⟩ := clm_end G hk
  have key : ∃ _ : Unit, True ∧ ∀ u : Unit, lfix ((fun _ k19 t => fXX7_parentHolds_10_19 nb k19 t.1 t.2.1 t.2.2) u) FU (nI (clm V i 0), nI 0, XD ρ d) = some (nI 1, XD ρ d) := by
    refine lfor (κ := Unit) (fun _ k19 t => fXX7_parentHolds_10_19 nb k19 t.1 t.2.1 t.2.2) (fun k (_ : Unit) => (nI (clm V i k), nI k, XD ρ d)) (fun _ _ => some (nI 1, XD ρ d)) m (fun _ _ => True) ?_ ?_ 0 () FU (Nat.zero_le _) trivial (by unfold FU; omega)
    · rintro k _ hkm _
      refine ⟨(), trivial, fun _ K => ?_⟩
      have e := clm_dir G hk k
      have hi2 := G.ino (i := clm V i k) (.inr e)
      have hne := m3 k hkm
      have h12 : 12 ≤ clm V i k := by
        rcases Nat.lt_or_ge (clm V i k) 12 with w | w
        · rw [k4 _ hi2.1 w hne] at e; omega
        · exact w
      have h3 := hH (clm V i k) (by omega)
      rw [if_pos ⟨h12, .inr e⟩] at h3
      have ho := holder_X (nb := nb) d (by omega) h3
      simp (disch := omega) only [fXX7_parentHolds_10_19, lit, litN, nI_leI', if_neg, nI_eqI, ho, obs, nI_add]
      rfl
    · rintro _ _ _ K
      rw [m2]
      simp (disch := omega) only [fXX7_parentHolds_10_19, fXX7_parentHolds_10_47, lit, litN, nI_leI', if_neg, if_true]
  obtain ⟨_, _, h⟩ := key
  have h' := h ()
  simp only [fXX7_parentHolds_10, fXX7_parentHolds_10_0, lit, litN, pa, obs, ho, if_true]
  exact h'
set_option maxRecDepth 4096 in
theorem treeH_X {nb : Nat} {V : VV} (G : Good nb V) {ρ : XS} {d : Nat → Nat} (S : Sc V ρ) (D : DX nb V d) (hH : ∀ j, j < 2065 → ρ.2.1 4 j = nI (if 12 ≤ j ∧ live V j then vpar V j else 0)) (hP : ∀ j, j < 2065 → ρ.2.1 5 j = nI (if vkd V j = 2 then vpar V j else 0)) :
    fXX7_treeHolds_10 nb (XD ρ d) = some (nI 1, XD ρ d) := by
  have A := G.1
  have hg := G_lt A.1
  obtain ⟨k1, k2, k3, k4, k5, k6⟩ := G.2.2.2.2.2.1
  have k10 : (nI 1 = nI 0) = False := eq_false nI10
  have iX := inodes_X A.1 S d
  have key : ∃ _ : Unit, 12 ≤ vQ V * vG V + 1 ∧ ∀ u : Unit, lfix ((fun _ k3 t => fXX7_treeHolds_10_3 nb k3 t.1 t.2) u) FU (nI 12, XD ρ d) = some (nI 1, XD ρ d) := by
    refine lfor (κ := Unit) (fun _ k3 t => fXX7_treeHolds_10_3 nb k3 t.1 t.2) (fun i (_ : Unit) => (nI i, XD ρ d)) (fun _ _ => some (nI 1, XD ρ d)) (vQ V * vG V + 1) (fun i _ => 12 ≤ i) ?_ ?_ 12 () FU (by omega) (by omega) (by unfold FU; omega)
    · rintro i _ hi h12
      refine ⟨(), by omega, fun _ K => ?_⟩
      have uX := isUsed5_X A.1 S D (i := i) (by omega) (by omega)
      have iD := isDir_X A.1 S D (i := i) (by omega) (by omega)
      have h1 := hH i (by omega)
      have T3 : ∀ (v : Nat), v < 2147483648 → fXX7_holderOf_10 nb (nI i) (XD ρ d) = some (nI v, XD ρ d) → fXX7_treeHolds_10_3 nb K (nI i) (XD ρ d) = fXX7_treeHolds_10_27 nb K (nI i) (if v = 0 then nI 0 else nI 1) (XD ρ d) := fun v hv ho => by
        by_cases q : v = 0
        · rw [if_pos q]; subst q
          simp (disch := omega) only [fXX7_treeHolds_10_3, lit, litN, iX, obs, nI_ltI', if_neg, ho, if_true]
        · rw [if_neg q]
          have hq : ¬ nI v = nI 0 := fun e => q (nI_inj (by omega) (by omega) e)
          simp (disch := omega) only [fXX7_treeHolds_10_3, lit, litN, iX, obs, nI_ltI', if_neg, ho, hq, if_false]
      by_cases hl : live V i
      · have hp := par_dir G hl
        rw [if_pos ⟨h12, hl⟩] at h1
        have ho := holder_X (nb := nb) d (by omega) h1
        rw [if_pos (by unfold live at hl; omega)] at uX
        have t3 := T3 _ (by omega) ho
        rw [if_neg (by omega)] at t3
        by_cases q : vkd V i = 2
        · rw [if_pos q] at iD
          have pH := parentH_X G d hH hP q h12
          have t71 : fXX7_treeHolds_10_71 nb K (nI i) (XD ρ d) = K (nI (i + 1), XD ρ d) := by
            simp only [fXX7_treeHolds_10_71, fXX7_treeHolds_10_92, lit, litN, iD, obs, k10, if_false, pH, nI_add]
          refine t3.trans ?_
          simp only [fXX7_treeHolds_10_27, lit, litN, uX, obs, if_true, k10, if_false, iD, t71]
        · rw [if_neg q] at iD
          have l1 := G.2.2.2.2.2.2.2.2.2.1 i (by unfold live at hl; omega)
          have lk := links_X A.1 S D (i := i) (by omega) (by omega) hl (by omega)
          rw [l1] at lk
          have t71 : fXX7_treeHolds_10_71 nb K (nI i) (XD ρ d) = K (nI (i + 1), XD ρ d) := by
            simp only [fXX7_treeHolds_10_71, fXX7_treeHolds_10_92, lit, litN, iD, obs, if_true, nI_add]
          refine t3.trans ?_
          simp only [fXX7_treeHolds_10_27, lit, litN, uX, obs, if_true, k10, if_false, iD, lk, t71]
      · rw [if_neg (fun z => hl z.2)] at h1
        have ho := holder_X (nb := nb) d (by omega) h1
        have z : vkd V i = 0 := by
          have := k1 i; have := k6 i (by omega); unfold live at hl; omega
        rw [if_neg (by omega)] at uX
        rw [if_neg (by omega)] at iD
        have t3 := T3 0 (by omega) ho
        rw [if_pos rfl] at t3
        have t71 : fXX7_treeHolds_10_71 nb K (nI i) (XD ρ d) = K (nI (i + 1), XD ρ d) := by
          simp only [fXX7_treeHolds_10_71, fXX7_treeHolds_10_92, lit, litN, iD, obs, if_true, nI_add]
        refine t3.trans ?_
        simp only [fXX7_treeHolds_10_27, lit, litN, uX, obs, if_true, t71]
    · rintro _ _ _ K
      have iD := isDir_X A.1 S D (i := 2) (by omega) (by omega)
      rw [if_pos k5] at iD
      have h2 := hP 2 (by omega)
      rw [if_pos k5, G.2.2.2.2.2.2.2.2.1] at h2
      have pa := parent_X (nb := nb) d (by omega) h2
      simp (disch := omega) only [fXX7_treeHolds_10_3, lit, litN, iX, obs, nI_ltI', if_pos, iD, k10, if_false, pa, if_true]
  obtain ⟨_, _, h⟩ := key
  have h' := h ()
  simp only [fXX7_treeHolds_10, fXX7_treeHolds_10_0, lit, litN]
  exact h'
