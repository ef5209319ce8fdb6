set_option maxRecDepth 4096 in
theorem clrA_at (τ : XS) (i k x : Nat) : (clrA τ i).2.1 k x = if (7 ≤ k ∧ k ≤ 14) ∧ x = i then nI 0 else τ.2.1 k x := by
  unfold clrA
  simp only [stA_at]
  by_cases c : x = i
  · by_cases c7 : k = 7
    · simp [c, c7]
    by_cases c8 : k = 8
    · simp [c, c8]
    by_cases c9 : k = 9
    · simp [c, c9]
    by_cases c10 : k = 10
    · simp [c, c10]
    by_cases c11 : k = 11
    · simp [c, c11]
    by_cases c12 : k = 12
    · simp [c, c12]
    by_cases c13 : k = 13
    · simp [c, c13]
    by_cases c14 : k = 14
    · simp [c, c14]
    simp only [c7, c8, c9, c10, c11, c12, c13, c14, false_and, if_false]
    rw [if_neg (by omega)]
  · simp [c]
set_option maxRecDepth 4096 in
theorem clrM_at (τ : XS) (i k x : Nat) : (clrM τ i).2.1 k x = if (7 ≤ k ∧ k ≤ 14) ∧ x = i then nI 0 else τ.2.1 k x := clrA_at τ i k x
def mk3 (τ : XS) (i t h : Nat) : XS := stA (stA (clrM (stA τ 6 i (nI t)) i) 8 i (nI t)) 15 i (nI h)
set_option maxRecDepth 4096 in
theorem mk3_a (τ : XS) (i t h : Nat) {k : Nat} (h1 : k < 6 ∨ 15 < k) : (mk3 τ i t h).2.1 k = τ.2.1 k := by
  unfold mk3
  rw [stA_k _ _ _ _ (by omega), stA_k _ _ _ _ (by omega), (clrM_k _ i).2 k (by omega), stA_k _ _ _ _ (by omega)]
set_option maxRecDepth 4096 in
theorem mk3_s (τ : XS) (i t h : Nat) : (mk3 τ i t h).1 = τ.1 := rfl
set_option maxRecDepth 4096 in
theorem clrV_z {V : VV} {i : Nat} (z1 : vsz V i = 0) (z3 : vtm V (3 * i) = 0) (z4 : vtm V (3 * i + 1) = 0) (z5 : vtm V (3 * i + 2) = 0) : vsz (clrV V i) = vsz V ∧ vtm (clrV V i) = vtm V := by
  constructor
  · funext j
    show (clrV V i).2.1 4 j = _
    unfold clrV
    rw [setA_o _ _ _ (by omega), setA_o _ _ _ (by omega), setA_o _ _ _ (by omega), setA_o _ _ _ (by omega), setA_i]
    by_cases c : j = i
    · rw [if_pos c, c, z1]
    · rw [if_neg c]
  · funext x
    show (clrV V i).2.1 16 x = _
    unfold clrV
    rw [setA_i, setA_i, setA_i, setA_o _ _ _ (by omega), setA_o _ _ _ (by omega)]
    by_cases c2 : x = 3 * i + 2
    · rw [if_pos c2, c2, z5]
    · rw [if_neg c2]
      by_cases c1 : x = 3 * i + 1
      · rw [if_pos c1, c1, z4]
      · rw [if_neg c1]
        by_cases c0 : x = 3 * i
        · rw [if_pos c0, c0, z3]
        · rw [if_neg c0]
set_option maxRecDepth 4096 in
theorem clrV_o (V : VV) (i : Nat) {k : Nat} (h4 : k ≠ 4) (h5 : k ≠ 5) (h16 : k ≠ 16) : (clrV V i).2.1 k = V.2.1 k := by
  unfold clrV
  rw [setA_o _ _ _ h16, setA_o _ _ _ h16, setA_o _ _ _ h16, setA_o _ _ _ h5, setA_o _ _ _ h4]
set_option maxRecDepth 4096 in
theorem mk_0 {nb : Nat} {V : VV} (G : Good nb V) {τ : XS} {f : Nat → Nat} (R : RM nb V τ f) {i t h e dp : Nat} (hi : i < 2100) (hi0 : vkd V i = 0) : RM nb (fin (tkI V i) i t h e dp) (mk3 τ i t h) f := by
  have z := G.2.2.2.2.1 i (by unfold live; omega)
  obtain ⟨z1, z2, z3, z4, z5, z6, z7, z8, z9, z10⟩ := z
  have R1 := RM_clr R (i := i) z3 z6 z7 z4
  have cm : vmn (clrV V i) = vmn V := clrV_o V i (by omega) (by omega) (by omega)
  have cr : vrn (clrV V i) = vrn V := clrV_o V i (by omega) (by omega) (by omega)
  have R2 := RM_lk (RM_kd1 R1 (i := i) (t := t) (h := h) hi (by rw [cm]; exact z3) (by rw [cr]; exact z4)) i t
  have R3 : RM nb (setA (setA (setA (clrV V i) 3 i t) 11 i h) 5 i t) (mk3 τ i t h) f := by
    refine RM_tau R2 (fun k _ => rfl) (fun k h1 h2 => ?_) rfl
    funext x
    unfold mk3
    simp only [stA_at, clrM_at]
    by_cases c : x = i
    · by_cases c6 : k = 6
      · simp [c, c6]
      by_cases c8 : k = 8
      · simp [c, c8]
      by_cases c15 : k = 15
      · simp [c, c15]
      simp [c, c6, c8, c15]
    · simp [c]
  obtain ⟨w1, w2⟩ := clrV_z z1 z8 z9 z10
  have ya : ∀ k, k ≠ 3 → k ≠ 4 → k ≠ 5 → k ≠ 11 → k ≠ 16 → (setA (setA (setA (clrV V i) 3 i t) 11 i h) 5 i t).2.1 k = V.2.1 k := fun k a b c d e' => by
    rw [setA_o _ _ _ c, setA_o _ _ _ d, setA_o _ _ _ a, clrV_o V i b c e']
  have fa : ∀ k, k ≠ 3 → k ≠ 5 → k ≠ 11 → k ≠ 13 → k ≠ 17 → k ≠ 18 → (fin (tkI V i) i t h e dp).2.1 k = V.2.1 k := fun k a b c d e' f' => by
    rw [fin_o _ _ _ _ _ _ a b c e' f', tkI_a V i a d]
  refine RM_RE R3 ⟨tkI_s V i, ?_, ?_, ?_, ?_, ?_, tkI_t V i (by omega), tkI_t V i (by omega), ?_⟩ ?_ ?_ ?_ ?_ ?_
  · exact (fa 0 (by omega) (by omega) (by omega) (by omega) (by omega) (by omega)).trans (ya 0 (by omega) (by omega) (by omega) (by omega) (by omega)).symm
  · exact (fa 6 (by omega) (by omega) (by omega) (by omega) (by omega) (by omega)).trans (ya 6 (by omega) (by omega) (by omega) (by omega) (by omega)).symm
  · exact (fa 7 (by omega) (by omega) (by omega) (by omega) (by omega) (by omega)).trans (ya 7 (by omega) (by omega) (by omega) (by omega) (by omega)).symm
  · exact (fa 9 (by omega) (by omega) (by omega) (by omega) (by omega) (by omega)).trans (ya 9 (by omega) (by omega) (by omega) (by omega) (by omega)).symm
  · exact (fa 10 (by omega) (by omega) (by omega) (by omega) (by omega) (by omega)).trans (ya 10 (by omega) (by omega) (by omega) (by omega) (by omega)).symm
  · exact (fa 15 (by omega) (by omega) (by omega) (by omega) (by omega) (by omega)).trans (ya 15 (by omega) (by omega) (by omega) (by omega) (by omega)).symm
  · funext j
    rw [fin_3, tkI_k]
    show _ = (setA _ 5 i t).2.1 3 j
    rw [setA_o _ _ _ (by omega), setA_o _ _ _ (by omega), setA_i, clrV_o V i (by omega) (by omega) (by omega)]
    by_cases c : j = i
    · rw [if_pos c, if_pos c]
    · rw [if_neg c, if_neg c, if_neg c]
  · refine (fa 4 (by omega) (by omega) (by omega) (by omega) (by omega) (by omega)).trans ?_
    show _ = (setA _ 5 i t).2.1 4
    rw [setA_o _ _ _ (by omega), setA_o _ _ _ (by omega), setA_o _ _ _ (by omega)]; exact w1.symm
  · funext j
    rw [fin_5]
    show _ = (setA _ 5 i t).2.1 5 j
    rw [setA_i, setA_o _ _ _ (by omega), setA_o _ _ _ (by omega)]
    by_cases c : j = i
    · rw [if_pos c, if_pos c]
    · rw [if_neg c, if_neg c]
      show (tkI V i).2.1 5 j = _
      rw [tkI_a V i (by omega) (by omega)]
      unfold clrV
      rw [setA_o _ _ _ (by omega), setA_o _ _ _ (by omega), setA_o _ _ _ (by omega), setA_i, if_neg c, setA_o _ _ _ (by omega)]
  · funext j
    rw [fin_11]
    show _ = (setA _ 5 i t).2.1 11 j
    rw [setA_o _ _ _ (by omega), setA_i, setA_o _ _ _ (by omega), clrV_o V i (by omega) (by omega) (by omega)]
    show (if _ then _ else (tkI V i).2.1 11 j) = _
    rw [tkI_a V i (by omega) (by omega)]
  · refine (fa 16 (by omega) (by omega) (by omega) (by omega) (by omega) (by omega)).trans ?_
    show _ = (setA _ 5 i t).2.1 16
    rw [setA_o _ _ _ (by omega), setA_o _ _ _ (by omega), setA_o _ _ _ (by omega)]; exact w2.symm
-- the lowest free inode
set_option maxRecDepth 4096 in
theorem low_M {nb : Nat} {V : VV} (G : Good nb V) {τ : XS} {f : Nat → Nat} (R : RM nb V τ f) (x1 x4 : Int32) :
    ∃ i, ((lowI V i ∧ 12 ≤ i ∧ i ≤ vQ V * vG V ∧ 1 ≤ nfi V) ∨ (i = vQ V * vG V + 1 ∧ nfi V = 0)) ∧ lfix (fun k50 t => fMX12_make_0_50 nb k50 t.1 t.2.1 t.2.2.1 t.2.2.2) FU (x1, x4, nI 12, XD τ f) = fMX12_make_0_80 nb x1 x4 (nI i) (XD τ f) := by
  have hg := G_lt G.1.1
  have s7 : (XD τ f).1 7 = nI (vQ V) := R.1.2.2.2.2.1
  have s5 : (XD τ f).1 5 = nI (vG V) := R.1.2.2.1
  obtain ⟨k4, k0, kQ, k11, k2, k3⟩ := G.2.2.2.2.2.1
  have hlow : ∀ c, 1 ≤ c → c < 12 → vkd V c ≠ 0 := fun c h1 h2 => by
    by_cases c2 : c = 2
    · subst c2; omega
    · have := k11 c h1 h2 c2; omega
  have key : ∃ i : Nat, ((lowI V i ∧ 12 ≤ i ∧ i ≤ vQ V * vG V ∧ 1 ≤ nfi V) ∨ (i = vQ V * vG V + 1 ∧ nfi V = 0)) ∧ ∀ u : Unit, lfix ((fun _ k50 t => fMX12_make_0_50 nb k50 t.1 t.2.1 t.2.2.1 t.2.2.2) u) FU (x1, x4, nI 12, XD τ f) = (fun (_ : Unit) i => fMX12_make_0_80 nb x1 x4 (nI i) (XD τ f)) u i := by
    refine lmea (κ := Unit) (fun _ k50 t => fMX12_make_0_50 nb k50 t.1 t.2.1 t.2.2.1 t.2.2.2) (fun j : Nat => (x1, x4, nI j, XD τ f)) (fun _ i => fMX12_make_0_80 nb x1 x4 (nI i) (XD τ f)) (fun j => 12 ≤ j ∧ j ≤ vQ V * vG V + 1 ∧ ∀ c, 1 ≤ c → c < j → vkd V c ≠ 0) _ (fun j => vQ V * vG V + 1 - j) ?_ FU 12 ⟨by omega, by omega, hlow⟩ (by show vQ V * vG V + 1 - 12 < FU; unfold FU; omega)
    intro j ⟨j1, j2, j3⟩
    by_cases c : j = vQ V * vG V + 1
    · right
      refine ⟨j, .inr ⟨c, ?_⟩, fun _ K => ?_⟩
      · rcases Nat.eq_zero_or_pos (nfi V) with q | q
        · exact q
        · obtain ⟨m, m1, m2⟩ := num_pos q
          have := j3 (1 + m) (by omega) (by omega)
          unfold pfi at m2; rw [if_neg this] at m2; omega
      · simp (disch := omega) only [fMX12_make_0_50, s7, s5, nI_mul, lit, litN, nI_ltI', nI_leI', nI_eqI, nI_clampI, if_pos]
    · have u := (R.2.2.1 j (by omega)).1
      have u' : (XD τ f).2.1 6 j = τ.2.1 6 j := XD_k _ _ _ _ (by omega)
      have h4 := k4 j
      by_cases c2 : vkd V j = 0
      · right
        rw [c2] at u
        refine ⟨j, .inl ⟨⟨by omega, c2, j3⟩, j1, by omega, (nfi_ge G.1.1 (by omega) (by omega) c2).1⟩, fun _ K => ?_⟩
        simp (disch := omega) only [fMX12_make_0_50, s7, s5, nI_mul, lit, litN, nI_ltI', nI_leI', nI_eqI, nI_clampI, n_or, if_neg, u', u, if_true]
      · left
        refine ⟨j + 1, ⟨by omega, by omega, fun c' h1 h2 => ?_⟩, by show vQ V * vG V + 1 - (j + 1) < vQ V * vG V + 1 - j; omega, fun _ K => ?_⟩
        · by_cases c3 : c' = j
          · rw [c3]; exact c2
          · exact j3 c' h1 (by omega)
        · simp (disch := omega) only [fMX12_make_0_50, s7, s5, nI_mul, lit, litN, nI_ltI', nI_leI', nI_eqI, nI_clampI, n_or, if_neg, u', u, nI_add]
  obtain ⟨i, h1, h2⟩ := key
  exact ⟨i, h1, h2 ()⟩
