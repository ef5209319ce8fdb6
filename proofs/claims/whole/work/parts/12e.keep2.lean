def kpA (V : VV) (τ : XS) (i n : Nat) : XS := kpE (kpD (kpS (kpF (kpM V τ i n (vmn V i)) i n (far0 V i)) i n (vsg V i)) i n (vdb V i)) i n (fst0 V i) (vbl V i (n - 1))
set_option maxRecDepth 4096 in
theorem far_lt {nb : Nat} {V : VV} (O : OwnC nb V) (hn : nb ≤ 512) (h128 : 1 ≤ nb) {i : Nat} (hl : live V i) : far0 V i < 512 ∧ vsg V i < 512 ∧ vdb V i < 512 := by
  refine ⟨?_, ?_, ?_⟩
  · unfold far0; by_cases c : vrn V i = 0
    · rw [if_pos c]; omega
    · rw [if_neg c]; have := O.2.2.2.2.2.2.1 i 0 hl (by omega); omega
  · by_cases c : vsg V i = 0
    · omega
    · have := O.2.2.1 i hl c; omega
  · by_cases c : vdb V i = 0
    · omega
    · have := O.2.2.2.2.1 i hl c; omega
set_option maxRecDepth 4096 in
theorem keep_M {nb : Nat} {V : VV} (A : Stc nb V) {τ : XS} {f : Nat → Nat} (R : RM nb V τ f) {i n : Nat} (hi : i < 2100) (hl : live V i) (P : Shp V i) (hn : n ≤ vmn V i) : fMX12_keep_0 nb (nI i) (nI n) (XD τ f) = some (XD (kpA V τ i n) f) := by
  obtain ⟨B, C, O⟩ := A
  have hg := G_lt B
  have hmn := mn_lt B O hl
  obtain ⟨r1, r2, r3, r4, r5, r6, r7, r8, r9⟩ := R
  obtain ⟨s1, s2, s3, s4, s5, s6, s7, s8⟩ := r3 i hi
  obtain ⟨f1, f2, f3⟩ := far_lt O (by omega) (by omega) hl
  have key : ∃ r : Unit, True ∧ ∀ u : Unit, lfix ((fun _ k10 t => fMX12_keep_0_10 nb k10 t.1 t.2.1 t.2.2.1 t.2.2.2.1 t.2.2.2.2) u) FU (nI i, nI n, nI (if 0 < vmn V i then vbl V i 0 else 0), nI 0, XD (kpM V τ i n 0) f) = some (XD (kpA V τ i n) f) := by
    refine lmea (κ := Unit) (fun _ k10 t => fMX12_keep_0_10 nb k10 t.1 t.2.1 t.2.2.1 t.2.2.2.1 t.2.2.2.2) (fun x : Nat => (nI i, nI n, nI (if x < vmn V i then vbl V i x else 0), nI x, XD (kpM V τ i n x) f)) (fun _ (_ : Unit) => some (XD (kpA V τ i n) f)) (fun x => x ≤ vmn V i) (fun _ => True) (fun x => vmn V i - x) ?_ FU 0 (Nat.zero_le _) (by show vmn V i - 0 < FU; unfold FU; omega)
    intro x hx
    have x9 : (XD (kpM V τ i n x) f).2.1 9 i = nI (vmn V i) := s4
    by_cases c : x = vmn V i
    · right
      refine ⟨(), trivial, fun _ K => ?_⟩
      subst c
      have hlast : vbl V i (n - 1) < 512 ∨ n = 0 := by
        by_cases e : n = 0
        · exact .inr e
        · have := O.1 i (n - 1) hl (by omega); exact .inl (by omega)
      have g : fMX12_keep_0_92 nb (nI i) (nI n) (nI (far0 V i)) (if n ≤ 268 then nI 0 else nI 1) (XD (kpM V τ i n (vmn V i)) f) = some (XD (kpA V τ i n) f) := by
        have h5 : far0 V i ≠ 0 → (kpM V τ i n (vmn V i)).2.1 5 (far0 V i) = nI 0 := fun h => by
          rw [kp_k _ _ _ _ _ (by omega) (by omega)]
          unfold far0 at h ⊢
          by_cases e : vrn V i = 0
          · rw [if_pos e] at h; omega
          · rw [if_neg e]; exact r8 i hi hl (by omega)
        have hw : 268 < n → far0 V i ≠ 0 := fun h => by
          have e : vrn V i = 1 := by rw [P.2.2.1, if_pos (by omega)]
          unfold far0; rw [if_neg (by omega)]
          have := O.2.2.2.2.2.2.1 i 0 hl (by omega); omega
        rcases hlast with hlast | hlast
        · exact k92_M nb (kpM V τ i n (vmn V i)) f hi (by omega) s7 (fun h => by rw [kp_11, if_pos ⟨rfl, h, hn⟩]) hlast s6 f3 s5 f2 s8 f1 h5 hw
        · subst hlast
          have := k92_M nb (kpM V τ i 0 (vmn V i)) f (last := 0) hi (by omega) s7 (fun h => by omega) (by omega) s6 f3 s5 f2 s8 f1 h5 hw
          rw [this]; unfold kpA kpE; rw [if_pos rfl, if_pos rfl]
      have x14 : (XD (kpM V τ i n (vmn V i)) f).2.1 14 i = nI (far0 V i) := s8
      by_cases c2 : n ≤ 268
      · rw [if_pos c2] at g
        simp (disch := omega) only [fMX12_keep_0_10, lit, litN, nI_ltI', nI_leI', nI_eqI, nI_clampI, n_or, if_neg, x9, if_pos, x14]
        exact g
      · rw [if_neg c2] at g
        have p := parts_M nb (XD (kpM V τ i n (vmn V i)) f) (x := n - 268) (y := 256) (by omega) (by omega)
        rw [show (n - 268 + 256 - 1) / 256 = 1 by omega] at p
        simp (disch := omega) only [fMX12_keep_0_10, lit, litN, nI_ltI', nI_leI', nI_eqI, nI_clampI, n_or, if_neg, x9, if_pos, x14, nI_sub, p, obs]
        exact g
    · left
      have hx' : x < vmn V i := by omega
      have o := O.1 i x hl hx'
      have nx := r7 i x hi hl hx'
      have x5 : ∀ y, (XD (kpM V τ i n y) f).2.1 5 (vbl V i x) = nI (if x + 1 < vmn V i then vbl V i (x + 1) else 0) := fun y => nx
      refine ⟨x + 1, hx', by show vmn V i - (x + 1) < vmn V i - x; omega, fun _ K => ?_⟩
      show fMX12_keep_0_10 nb K (nI i) (nI n) (nI (if x < vmn V i then vbl V i x else 0)) (nI x) (XD (kpM V τ i n x) f) = K (nI i, nI n, nI (if x + 1 < vmn V i then vbl V i (x + 1) else 0), nI (x + 1), XD (kpM V τ i n (x + 1)) f)
      rw [if_pos hx']
      by_cases c1 : x < n
      · by_cases c2 : x + 1 = n
        · have e := kp_last (V := V) τ (i := i) c2
          have en : nI n - nI 1 = nI x := by rw [nI_sub (by omega)]; congr 1; omega
          simp (disch := omega) only [fMX12_keep_0_10, fMX12_keep_0_34, fMX12_keep_0_49, lit, litN, nI_ltI', nI_leI', nI_eqI, nI_clampI, n_or, if_neg, x9, if_pos, en, if_true, XD_A, e, x5, nI_add]
        · have e := kp_skip (V := V) τ (i := i) (x := x) (n := n) (by omega)
          have hne : ¬ x = n - 1 := by omega
          simp (disch := omega) only [fMX12_keep_0_10, fMX12_keep_0_34, fMX12_keep_0_49, lit, litN, nI_ltI', nI_leI', nI_eqI, nI_clampI, n_or, if_neg, x9, if_pos, nI_sub, hne, if_false, x5, nI_add]
          rw [← e]
      · have e := kp_free B O τ (i := i) (n := n) (x := x) hl (by omega) hx'
        have hne : ¬ nI x = nI n - nI 1 := by
          rcases Nat.eq_zero_or_pos n with z | z
          · rw [z, show nI 0 - nI 1 = nI 4294967295 by decide +kernel]
            intro h; have := nI_inj (by omega) (by omega) h; omega
          · rw [nI_sub z]; intro h; have := nI_inj (by omega) (by omega) h; omega
        simp (disch := omega) only [fMX12_keep_0_10, fMX12_keep_0_34, fMX12_keep_0_49, lit, litN, nI_ltI', nI_leI', nI_eqI, nI_clampI, n_or, if_neg, x9, XD_A, nb0, e, hne, if_false, x5, nI_add]
  obtain ⟨_, _, h⟩ := key
  have h' := h ()
  rw [kp_0 (nb := nb)] at h'
  have x10 : (XD τ f).2.1 10 i = nI (if 0 < vmn V i then vbl V i 0 else 0) := by
    rw [XD_k _ _ _ _ (by omega), s7]; unfold fst0
    by_cases e : vmn V i = 0
    · rw [if_pos e, if_neg (by omega)]
    · rw [if_neg e, if_pos (by omega)]
  simp (disch := omega) only [fMX12_keep_0, fMX12_keep_0_0, lit, litN, nI_ltI', nI_leI', nI_eqI, nI_clampI, n_or, if_neg, x10]
  exact h'
-- what stands in the rows afterwards
set_option maxRecDepth 4096 in
theorem kpE_at (ρ : XS) (i n fs last k x : Nat) (hfs : ρ.2.1 10 i = nI fs) : (kpE ρ i n fs last).2.1 k x = if k = 9 ∧ x = i then nI n else if k = 5 ∧ x = last ∧ n ≠ 0 then nI 0 else if k = 10 ∧ x = i ∧ n = 0 then nI 0 else ρ.2.1 k x := by
  unfold kpE
  rw [stA_at]
  by_cases a : k = 9 ∧ x = i
  · rw [if_pos a, if_pos a]
  · rw [if_neg a, if_neg a]
    by_cases c : n = 0
    · rw [if_pos c, if_neg (fun e => e.2.2 c), stA_at]; simp only [c, and_true]
    · rw [if_neg c, stA_at, stA_at]
      simp only [ne_eq, c, not_false_eq_true, and_true, and_false, if_false]
      by_cases a1 : k = 5 ∧ x = last
      · rw [if_pos a1, if_pos a1]
      · rw [if_neg a1, if_neg a1]
        by_cases a2 : k = 10 ∧ x = i
        · rw [if_pos a2, a2.1, a2.2, hfs]
        · rw [if_neg a2]
set_option maxRecDepth 4096 in
theorem kpD_at (ρ : XS) (i n db k x : Nat) : (kpD ρ i n db).2.1 k x = if n ≤ 268 ∧ db ≠ 0 ∧ (k = 13 ∧ x = i ∨ k = 4 ∧ x = db) then nI 0 else ρ.2.1 k x := by
  unfold kpD
  by_cases c : n ≤ 268 ∧ db ≠ 0
  · rw [if_pos c, stA_at, stA_at]
    by_cases a : k = 13 ∧ x = i
    · rw [if_pos a, if_pos (by omega)]
    · rw [if_neg a]
      by_cases b : k = 4 ∧ x = db
      · rw [if_pos b, if_pos (by omega)]
      · rw [if_neg b, if_neg (by omega)]
  · rw [if_neg c, if_neg (by omega)]
set_option maxRecDepth 4096 in
theorem kpS_at' (ρ : XS) (i n sg k x : Nat) : (kpS ρ i n sg).2.1 k x = if n ≤ 12 ∧ sg ≠ 0 ∧ (k = 12 ∧ x = i ∨ k = 4 ∧ x = sg) then nI 0 else ρ.2.1 k x := by
  unfold kpS
  by_cases c : n ≤ 12 ∧ sg ≠ 0
  · rw [if_pos c, stA_at, stA_at]
    by_cases a : k = 12 ∧ x = i
    · rw [if_pos a, if_pos (by omega)]
    · rw [if_neg a]
      by_cases b : k = 4 ∧ x = sg
      · rw [if_pos b, if_pos (by omega)]
      · rw [if_neg b, if_neg (by omega)]
  · rw [if_neg c, if_neg (by omega)]
set_option maxRecDepth 4096 in
theorem kpF_at (ρ : XS) (i n fr k x : Nat) : (kpF ρ i n fr).2.1 k x = if k = 14 ∧ x = i then nI (if n ≤ 268 then 0 else fr) else if fr ≠ 0 ∧ x = fr ∧ (n ≤ 268 ∧ k = 4 ∨ 268 < n ∧ k = 5) then nI 0 else ρ.2.1 k x := by
  unfold kpF
  rw [stA_at]
  by_cases a : k = 14 ∧ x = i
  · rw [if_pos a, if_pos a]
  · rw [if_neg a, if_neg a]
    by_cases c : fr = 0
    · rw [if_pos c, if_neg (fun e => e.1 c)]
    · rw [if_neg c]
      by_cases c2 : n ≤ 268
      · rw [if_pos c2, stA_at]
        by_cases b : k = 4 ∧ x = fr
        · rw [if_pos b, if_pos (by omega)]
        · rw [if_neg b, if_neg (by omega)]
      · rw [if_neg c2, stA_at]
        by_cases b : k = 5 ∧ x = fr
        · rw [if_pos b, if_pos (by omega)]
        · rw [if_neg b, if_neg (by omega)]
set_option maxRecDepth 4096 in
theorem kpA_s (V : VV) (τ : XS) (i n : Nat) : (kpA V τ i n).1 = τ.1 ∧ (kpA V τ i n).2.2 = τ.2.2 := by
  unfold kpA kpE kpD kpS kpF; repeat' split
  all_goals exact ⟨rfl, rfl⟩
set_option maxRecDepth 4096 in
theorem kpA_at (V : VV) {τ : XS} {i : Nat} (hfs : τ.2.1 10 i = nI (fst0 V i)) (n k x : Nat) : (kpA V τ i n).2.1 k x =
    if k = 9 ∧ x = i then nI n else if k = 5 ∧ x = vbl V i (n - 1) ∧ n ≠ 0 then nI 0 else if k = 10 ∧ x = i ∧ n = 0 then nI 0 else
    if n ≤ 268 ∧ vdb V i ≠ 0 ∧ (k = 13 ∧ x = i ∨ k = 4 ∧ x = vdb V i) then nI 0 else if n ≤ 12 ∧ vsg V i ≠ 0 ∧ (k = 12 ∧ x = i ∨ k = 4 ∧ x = vsg V i) then nI 0 else
    if k = 14 ∧ x = i then nI (if n ≤ 268 then 0 else far0 V i) else if far0 V i ≠ 0 ∧ x = far0 V i ∧ (n ≤ 268 ∧ k = 4 ∨ 268 < n ∧ k = 5) then nI 0 else (kpM V τ i n (vmn V i)).2.1 k x := by
  unfold kpA
  rw [kpE_at, kpD_at, kpS_at', kpF_at]
  rw [kpD_at, if_neg (by omega), kpS_at', if_neg (by omega), kpF_at, if_neg (by omega), if_neg (by omega), kp_k _ _ _ _ _ (by omega) (by omega)]; exact hfs
