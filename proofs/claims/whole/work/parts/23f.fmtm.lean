set_option maxRecDepth 4096 in
theorem nbl1 : vp_nar .boolean (nI 1) = nI 1 := by decide +kernel
set_option maxRecDepth 4096 in
theorem usedL_M {nb P G : Nat} (h5 : nb ≤ 512) (hP : 64 ≤ P ∧ P ≤ 256) (hG : G ≤ 2064) {τ : XS} (f : Nat → Nat) (t4 : τ.1 4 = nI P) (t6 : τ.1 6 = nI (G / 8)) :
    ∃ τ', (τ'.1 = τ.1 ∧ (∀ k, k ≠ 4 → τ'.2.1 k = τ.2.1 k) ∧ τ'.2.2 = τ.2.2) ∧ (∀ b, 1 ≤ b → b < 512 → τ'.2.1 4 b = if o0 nb P G b = 0 then nI 0 else nI 1) ∧ lfix (fun k192 t => fMX12_format_0_192 nb k192 t.1 t.2) FU (nI 0, XD τ f) = lfix (fun k239 t => fMX12_format_0_239 nb k239 t.1 t.2) FU (nI 0, XD τ' f) := by
  have k10 : (nI 1 = nI 0) = False := eq_false nI10
  have key : ∃ τ', ((τ'.1 = τ.1 ∧ (∀ k, k ≠ 4 → τ'.2.1 k = τ.2.1 k) ∧ τ'.2.2 = τ.2.2) ∧ ∀ b, 1 ≤ b → b < 512 → τ'.2.1 4 b = if o0 nb P G b = 0 then nI 0 else nI 1) ∧ ∀ u : Unit, lfix ((fun _ k192 t => fMX12_format_0_192 nb k192 t.1 t.2) u) FU (nI 0, XD τ f) = lfix (fun k239 t => fMX12_format_0_239 nb k239 t.1 t.2) FU (nI 0, XD τ' f) := by
    refine lfor (κ := Unit) (fun _ k192 t => fMX12_format_0_192 nb k192 t.1 t.2) (fun x (τ' : XS) => (nI x, XD τ' f)) (fun _ τ' => lfix (fun k239 t => fMX12_format_0_239 nb k239 t.1 t.2) FU (nI 0, XD τ' f)) 512 (fun x τ' => (τ'.1 = τ.1 ∧ (∀ k, k ≠ 4 → τ'.2.1 k = τ.2.1 k) ∧ τ'.2.2 = τ.2.2) ∧ ∀ b, 1 ≤ b → b < x → τ'.2.1 4 b = if o0 nb P G b = 0 then nI 0 else nI 1) ?_ ?_ 0 τ FU (by omega) ⟨⟨rfl, fun _ _ => rfl, rfl⟩, fun b _ hb => by omega⟩ (by unfold FU; omega)
    · rintro x τ1 hx ⟨⟨e1, e2, e3⟩, hb⟩
      have s4 : (XD τ1 f).1 4 = nI P := by show τ1.1 4 = _; rw [e1]; exact t4
      have s6 : (XD τ1 f).1 6 = nI (G / 8) := by show τ1.1 6 = _; rw [e1]; exact t6
      have hm : (x - 1) % P < P := Nat.mod_lt _ (by omega)
      have st : ∀ v : Int32, ((stA τ1 4 x v).1 = τ.1 ∧ (∀ k, k ≠ 4 → (stA τ1 4 x v).2.1 k = τ.2.1 k) ∧ (stA τ1 4 x v).2.2 = τ.2.2) := fun v => ⟨e1, fun k hk => (stA_k _ _ _ _ hk).trans (e2 k hk), e3⟩
      have up : ∀ v : Int32, (1 ≤ x → v = if o0 nb P G x = 0 then nI 0 else nI 1) → ∀ b, 1 ≤ b → b < x + 1 → (stA τ1 4 x v).2.1 4 b = if o0 nb P G b = 0 then nI 0 else nI 1 := fun v hv b b1 b2 => by
        rw [stA_at]
        by_cases c : b = x
        · rw [if_pos ⟨rfl, c⟩, c]; exact hv (by omega)
        · rw [if_neg (fun z => c z.2)]; exact hb b b1 (by omega)
      by_cases c : nb ≤ x
      · refine ⟨stA τ1 4 x (nI 1), ⟨st _, up _ (fun _ => ?_)⟩, fun _ K => ?_⟩
        · have ho : o0 nb P G x = 7 := if_pos (.inr c)
          rw [ho, if_neg (by omega)]
        · simp (disch := omega) only [fMX12_format_0_192, fMX12_format_0_224, fMX12_format_0_229, lit, litN, nI_leI', if_neg, if_pos, nI_ltI', nI_leI', nI_eqI, nI_clampI, n_or, nbl1, XD_A, nI_add]
      · by_cases x0 : x = 0
        · subst x0
          refine ⟨stA τ1 4 0 (nI 0), ⟨st _, up _ (fun h => by omega)⟩, fun _ K => ?_⟩
          simp (disch := omega) only [fMX12_format_0_192, fMX12_format_0_229, fMX12_isFixed_0, fMX12_isFixed_0_0, lit, litN, nI_leI', if_neg, if_pos, obs, if_true, nI_ltI', nI_leI', nI_eqI, nI_clampI, n_or, nb0, XD_A, nI_add]
        · by_cases c2 : (x - 1) % P < 4 + G / 8
          · refine ⟨stA τ1 4 x (nI 1), ⟨st _, up _ (fun _ => ?_)⟩, fun _ K => ?_⟩
            · have ho : o0 nb P G x = 2 := by unfold o0; rw [if_neg (by omega), if_pos c2]
              rw [ho, if_neg (by omega)]
            · simp (disch := omega) only [fMX12_format_0_192, fMX12_format_0_224, fMX12_format_0_229, fMX12_isFixed_0, fMX12_isFixed_0_0, lit, litN, s4, s6, nI_sub, nI_div, nI_mul, nI_sub_dm, nI_add, nI_leI', nI_eqI, if_neg, obs, nI_ltI', nI_leI', nI_eqI, nI_clampI, n_or, nbl1, XD_A]
          · refine ⟨stA τ1 4 x (nI 0), ⟨st _, up _ (fun _ => ?_)⟩, fun _ K => ?_⟩
            · have ho : o0 nb P G x = 0 := by unfold o0; rw [if_neg (by omega), if_neg c2]
              rw [ho, if_pos rfl]
            · simp (disch := omega) only [fMX12_format_0_192, fMX12_format_0_229, fMX12_isFixed_0, fMX12_isFixed_0_0, lit, litN, s4, s6, nI_sub, nI_div, nI_mul, nI_sub_dm, nI_add, nI_leI', nI_eqI, if_neg, if_pos, obs, if_true, nI_ltI', nI_leI', nI_eqI, nI_clampI, n_or, nb0, XD_A]
    · rintro τ1 _ _ K
      simp (disch := omega) only [fMX12_format_0_192, lit, litN, nI_leI', if_pos]
  obtain ⟨τ', ⟨h1, h2⟩, h⟩ := key
  exact ⟨τ', h1, h2, h ()⟩
set_option maxRecDepth 4096 in
theorem clrM_z (τ : XS) (i : Nat) {m : Nat} (h1 : 7 ≤ m) (h2 : m ≤ 14) (j : Nat) : (clrM τ i).2.1 m j = if j = i then nI 0 else τ.2.1 m j := by
  show (clrA τ i).2.1 m j = _
  unfold clrA
  rcases (show m = 7 ∨ m = 8 ∨ m = 9 ∨ m = 10 ∨ m = 11 ∨ m = 12 ∨ m = 13 ∨ m = 14 by omega) with rfl | rfl | rfl | rfl | rfl | rfl | rfl | rfl <;> simp only [stA_at] <;> by_cases c : j = i <;> simp [c]
set_option maxRecDepth 4096 in
theorem clrM_tm (τ : XS) (i x : Nat) : (clrM τ i).2.2 0 x = if x = 3 * i ∨ x = 3 * i + 1 ∨ x = 3 * i + 2 then 0 else τ.2.2 0 x := by
  unfold clrM
  rw [stL_at, stL_at, stL_at]
  have e : (clrA τ i).2.2 = τ.2.2 := rfl
  rw [e]
  by_cases c1 : x = 3 * i + 2
  · rw [if_pos c1, if_pos (by omega)]
  · rw [if_neg c1]
    by_cases c2 : x = 3 * i + 1
    · rw [if_pos c2, if_pos (by omega)]
    · rw [if_neg c2]
      by_cases c3 : x = 3 * i
      · rw [if_pos c3, if_pos (by omega)]
      · rw [if_neg c3, if_neg (by omega)]
set_option maxRecDepth 4096 in
theorem kindL_M {nb : Nat} (τ : XS) (f : Nat → Nat) :
    ∃ τ', (τ'.1 = τ.1 ∧ ∀ k, (k < 6 ∨ 14 < k) → τ'.2.1 k = τ.2.1 k) ∧ (∀ i, i < 2100 → τ'.2.1 6 i = nI (if 1 ≤ i ∧ i ≤ 11 then 3 else 0) ∧ ∀ m, 7 ≤ m → m ≤ 14 → τ'.2.1 m i = nI 0) ∧ (∀ x, x < 6300 → τ'.2.2 0 x = 0) ∧ lfix (fun k239 t => fMX12_format_0_239 nb k239 t.1 t.2) FU (nI 0, XD τ f) = fMX12_format_0_239 nb (fun _ => none) (nI 2100) (XD τ' f) := by
  have key : ∃ τ', ((τ'.1 = τ.1 ∧ ∀ k, (k < 6 ∨ 14 < k) → τ'.2.1 k = τ.2.1 k) ∧ (∀ i, i < 2100 → τ'.2.1 6 i = nI (if 1 ≤ i ∧ i ≤ 11 then 3 else 0) ∧ ∀ m, 7 ≤ m → m ≤ 14 → τ'.2.1 m i = nI 0) ∧ ∀ x, x < 3 * 2100 → τ'.2.2 0 x = 0) ∧ ∀ u : Unit, lfix ((fun _ k239 t => fMX12_format_0_239 nb k239 t.1 t.2) u) FU (nI 0, XD τ f) = fMX12_format_0_239 nb (fun _ => none) (nI 2100) (XD τ' f) := by
    refine lfor (κ := Unit) (fun _ k239 t => fMX12_format_0_239 nb k239 t.1 t.2) (fun x (τ' : XS) => (nI x, XD τ' f)) (fun _ τ' => fMX12_format_0_239 nb (fun _ => none) (nI 2100) (XD τ' f)) 2100 (fun x τ' => (τ'.1 = τ.1 ∧ ∀ k, (k < 6 ∨ 14 < k) → τ'.2.1 k = τ.2.1 k) ∧ (∀ i, i < x → τ'.2.1 6 i = nI (if 1 ≤ i ∧ i ≤ 11 then 3 else 0) ∧ ∀ m, 7 ≤ m → m ≤ 14 → τ'.2.1 m i = nI 0) ∧ ∀ y, y < 3 * x → τ'.2.2 0 y = 0) ?_ ?_ 0 τ FU (by omega) ⟨⟨rfl, fun _ _ => rfl⟩, fun i hi => by omega, fun y hy => by omega⟩ (by unfold FU; omega)
    · rintro x τ1 hx ⟨⟨e1, e2⟩, hk, ht⟩
      have st : ∀ v : Nat, v = (if 1 ≤ x ∧ x ≤ 11 then 3 else 0) → ((clrM (stA τ1 6 x (nI v)) x).1 = τ.1 ∧ ∀ k, (k < 6 ∨ 14 < k) → (clrM (stA τ1 6 x (nI v)) x).2.1 k = τ.2.1 k) ∧ (∀ i, i < x + 1 → (clrM (stA τ1 6 x (nI v)) x).2.1 6 i = nI (if 1 ≤ i ∧ i ≤ 11 then 3 else 0) ∧ ∀ m, 7 ≤ m → m ≤ 14 → (clrM (stA τ1 6 x (nI v)) x).2.1 m i = nI 0) ∧ ∀ y, y < 3 * (x + 1) → (clrM (stA τ1 6 x (nI v)) x).2.2 0 y = 0 := fun v hv => by
        refine ⟨⟨(clrM_k _ _).1.trans e1, fun k hk' => ?_⟩, fun i hi => ⟨?_, fun m m1 m2 => ?_⟩, fun y hy => ?_⟩
        · rw [(clrM_k _ _).2 k (by omega), stA_k _ _ _ _ (by omega)]; exact e2 k hk'
        · rw [(clrM_k _ _).2 6 (by omega), stA_at]
          by_cases c : i = x
          · rw [if_pos ⟨rfl, c⟩, hv, c]
          · rw [if_neg (fun z => c z.2)]; exact (hk i (by omega)).1
        · rw [clrM_z _ _ m1 m2]
          by_cases c : i = x
          · rw [if_pos c]
          · rw [if_neg c, stA_k _ _ _ _ (by omega)]; exact (hk i (by omega)).2 m m1 m2
        · rw [clrM_tm]
          by_cases c : y = 3 * x ∨ y = 3 * x + 1 ∨ y = 3 * x + 2
          · rw [if_pos c]
          · rw [if_neg c]; exact ht y (by omega)
      by_cases c : x = 0 ∨ 12 ≤ x
      · have cl := clear_M nb (stA τ1 6 x (nI 0)) f hx
        refine ⟨_, st 0 (by rw [if_neg (by omega)]), fun _ K => ?_⟩
        by_cases x0 : x = 0
        · subst x0
          simp (disch := omega) only [fMX12_format_0_239, fMX12_format_0_269, fMX12_format_0_270, lit, litN, nI_leI', if_neg, if_pos, nI_ltI', nI_leI', nI_eqI, nI_clampI, n_or, XD_A, cl, obs, nI_add]
        · simp (disch := omega) only [fMX12_format_0_239, fMX12_format_0_269, fMX12_format_0_270, lit, litN, nI_leI', if_neg, if_pos, nI_ltI', nI_leI', nI_eqI, nI_clampI, n_or, XD_A, cl, obs, nI_add]
      · have cl := clear_M nb (stA τ1 6 x (nI 3)) f hx
        refine ⟨_, st 3 (by rw [if_pos (by omega)]), fun _ K => ?_⟩
        simp (disch := omega) only [fMX12_format_0_239, fMX12_format_0_270, lit, litN, nI_leI', if_neg, nI_ltI', nI_leI', nI_eqI, nI_clampI, n_or, XD_A, cl, obs, nI_add]
    · rintro τ1 _ _ K
      simp (disch := omega) only [fMX12_format_0_239, lit, litN, nI_leI', if_pos]
  obtain ⟨τ', ⟨h1, h2, h3⟩, h⟩ := key
  exact ⟨τ', h1, h2, h3, h ()⟩
set_option maxRecDepth 4096 in
theorem pre_RM {nb : Nat} {C : VV} (pr : Pre nb C) {P G Q I M : Nat} (eS : vP C = P ∧ vQ C = Q ∧ vG C = G ∧ vI C = I ∧ vmd C = M) (eo : vot C = o0 nb P G) {τ : XS} (f : Nat → Nat) (s2 : τ.1 2 = nI M) (s4 : τ.1 4 = nI P) (s5 : τ.1 5 = nI G) (s6 : τ.1 6 = nI (G / 8)) (s7 : τ.1 7 = nI Q) (s8 : τ.1 8 = nI I)
    (hu : ∀ b, 1 ≤ b → b < 512 → τ.2.1 4 b = if o0 nb P G b = 0 then nI 0 else nI 1) (hk : ∀ i, i < 2100 → τ.2.1 6 i = nI (if 1 ≤ i ∧ i ≤ 11 then 3 else 0) ∧ ∀ m, 7 ≤ m → m ≤ 14 → τ.2.1 m i = nI 0) (ht : ∀ x, x < 6300 → τ.2.2 0 x = 0) :
    RM nb C (stA (stA (stA τ 6 2 (nI 2)) 15 2 (nI 2)) 8 2 (nI 2)) f := by
  obtain ⟨A, ck, cI, cD, cz, cl, cp, co, ci, hf⟩ := pr
  have z : ∀ k, k ≠ 0 → k ≠ 3 → k ≠ 5 → k ≠ 11 → k ≠ 12 → k ≠ 13 → ∀ i, C.2.1 k i = 0 := cz
  have m0 : ∀ i, vmn C i = 0 := z 6 (by omega) (by omega) (by omega) (by omega) (by omega) (by omega)
  have r0 : ∀ i, vrn C i = 0 := z 7 (by omega) (by omega) (by omega) (by omega) (by omega) (by omega)
  have sz0 : ∀ i, vsz C i = 0 := z 4 (by omega) (by omega) (by omega) (by omega) (by omega) (by omega)
  have sg0 : ∀ i, vsg C i = 0 := z 9 (by omega) (by omega) (by omega) (by omega) (by omega) (by omega)
  have db0 : ∀ i, vdb C i = 0 := z 10 (by omega) (by omega) (by omega) (by omega) (by omega) (by omega)
  have tm0 : ∀ i, vtm C i = 0 := z 16 (by omega) (by omega) (by omega) (by omega) (by omega) (by omega)
  have f0 : ∀ i, fst0 C i = 0 := fun i => if_pos (m0 i)
  have fa0 : ∀ i, far0 C i = 0 := fun i => if_pos (r0 i)
  refine ⟨⟨by rw [eS.2.2.2.2]; exact s2, by rw [eS.1]; exact s4, by rw [eS.2.2.1]; exact s5, by rw [eS.2.2.1]; exact s6, by rw [eS.2.1]; exact s7, by rw [eS.2.2.2.1]; exact s8⟩, fun b b1 b2 => ?_, fun i hi => ?_, fun i hi _ h => by rw [m0] at h; omega, fun i hi hl => ?_, fun x hx => ?_, fun i k hi _ h => by rw [m0] at h; omega, fun i hi _ h => by rw [r0] at h; omega, fun b o _ _ h => ?_⟩
  · rw [stA_k _ _ _ _ (by omega), stA_k _ _ _ _ (by omega), stA_k _ _ _ _ (by omega), eo]; exact hu b b1 b2
  · obtain ⟨h6, hm⟩ := hk i hi
    refine ⟨?_, ?_, ?_, ?_, ?_, ?_, ?_, ?_⟩
    · rw [stA_k _ _ _ _ (by omega), stA_k _ _ _ _ (by omega), stA_at, ck]
      by_cases c : i = 2
      · rw [if_pos ⟨rfl, c⟩, if_pos c]
      · rw [if_neg (fun q => c q.2), if_neg c]; exact h6
    · rw [stA_k _ _ _ _ (by omega), stA_k _ _ _ _ (by omega), stA_k _ _ _ _ (by omega), sz0]; exact hm 7 (by omega) (by omega)
    · rw [stA_at, cl]
      by_cases c : i = 2
      · rw [if_pos ⟨rfl, c⟩, if_pos c]
      · rw [if_neg (fun q => c q.2), if_neg c, stA_k _ _ _ _ (by omega), stA_k _ _ _ _ (by omega)]; exact hm 8 (by omega) (by omega)
    · rw [stA_k _ _ _ _ (by omega), stA_k _ _ _ _ (by omega), stA_k _ _ _ _ (by omega), m0]; exact hm 9 (by omega) (by omega)
    · rw [stA_k _ _ _ _ (by omega), stA_k _ _ _ _ (by omega), stA_k _ _ _ _ (by omega), sg0]; exact hm 12 (by omega) (by omega)
    · rw [stA_k _ _ _ _ (by omega), stA_k _ _ _ _ (by omega), stA_k _ _ _ _ (by omega), db0]; exact hm 13 (by omega) (by omega)
    · rw [stA_k _ _ _ _ (by omega), stA_k _ _ _ _ (by omega), stA_k _ _ _ _ (by omega), f0]; exact hm 10 (by omega) (by omega)
    · rw [stA_k _ _ _ _ (by omega), stA_k _ _ _ _ (by omega), stA_k _ _ _ _ (by omega), fa0]; exact hm 14 (by omega) (by omega)
  · have i2 : i = 2 := by
      by_cases c : i = 2
      · exact c
      · unfold live at hl; rw [ck, if_neg c] at hl
        split at hl <;> omega
    rw [stA_k _ _ _ _ (by omega), stA_at, if_pos ⟨rfl, i2⟩, cp]
  · rw [tm0]; exact ht x hx
  · rw [eo] at h
    have := @o0_3 nb P G b; omega
set_option maxRecDepth 4096 in
theorem rootM_M {nb : Nat} {C : VV} (pr : Pre nb C) {τ : XS} {f : Nat → Nat} (R : RM nb C (stA (stA (stA τ 6 2 (nI 2)) 15 2 (nI 2)) 8 2 (nI 2)) f) :
    ∃ τ' f', RM nb (setS (rtV C (vbl (addB C 2) 2 0)) 4 1) τ' f' ∧ (∀ k, k ≠ 2 → k ≠ 3 → k ≠ 9 → τ'.1 k = τ.1 k) ∧ τ'.1 3 = nI 0 ∧ τ'.1 9 = nI 2 ∧ (∀ k, (k = 1 ∨ k = 2 ∨ k = 3) → τ'.2.1 k = τ.2.1 k) ∧ fMX12_format_0_239 nb (fun _ => none) (nI 2100) (XD τ f) = some (nI (nfb (setS (rtV C (vbl (addB C 2) 2 0)) 4 1)), XD τ' f') := by
  obtain ⟨l2, P2, m2, z2, hf2⟩ := Pre_P pr
  obtain ⟨GW, -⟩ := root_G pr
  have hg := G_lt pr.1.1
  obtain ⟨τ1, f1, R1, t1, t2, t3⟩ := folder_M pr.1 R (i := 2) (by omega) (by omega) l2 P2 m2 pr.2.2.2.2.2.2.2.2.2
  rw [pr.2.2.2.2.2.2.1] at R1
  have R2 : RM nb (rtV C (vbl (addB C 2) 2 0)) τ1 f1 := R1
  have R3 := RM_S (m := 3) (v := nI 0) (by omega) (RM_S4 (RM_S (m := 9) (v := nI 2) (by omega) R2))
  have fr := freeB_M GW.1.1 R3
  refine ⟨_, f1, R3, fun k k2 k3 k9 => ?_, stS_e _ 3 _, ?_, fun k hk => ?_, ?_⟩
  · rw [stS_k _ _ _ k3, stS_k _ _ _ k2, stS_k _ _ _ k9, t1]; rfl
  · rw [stS_k _ _ _ (by omega), stS_k _ _ _ (by omega)]; exact stS_e _ 9 _
  · show τ1.2.1 k = _
    rw [t2 k (by omega), stA_k _ _ _ _ (by omega), stA_k _ _ _ _ (by omega), stA_k _ _ _ _ (by omega)]
  · simp (disch := omega) only [fMX12_format_0_239, lit, litN, nI_leI', if_pos, nI_ltI', nI_leI', nI_eqI, nI_clampI, n_or, if_neg, XD_A, t3, obs, XD_S, fr]
