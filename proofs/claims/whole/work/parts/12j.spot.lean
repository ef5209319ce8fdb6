set_option maxRecDepth 4096 in
theorem uses_M {nb : Nat} {V : VV} {τ : XS} {f : Nat → Nat} (hn : nb ≤ 512) (R : RM nb V τ f) {a : Nat} (h : Adr nb V a) (ρ : XS) : fMX12_uses_0 nb (nI a) (XD ρ f) = some (nI (usd (vdat V) a), XD ρ f) := by
  have hya := Adr_lt hn h
  have h12 := h.2.2.2
  have four : fMX12_four_0 nb (nI a) (XD ρ f) = some (nI (rd4 (vdat V) a), XD ρ f) := by rw [four_M nb ρ f (by omega), RMd_4 R h]
  have one : fMX12_one_0 nb (nI (a + 6)) (XD ρ f) = some (nI (vdat V (a + 6) % 256), XD ρ f) := by rw [one_M nb ρ f (by omega), RMd_d R h 6 (by omega)]
  have hlt := rd4_lt (vdat V) a
  unfold usd
  by_cases c : rd4 (vdat V) a = 0
  · rw [if_pos c]
    simp (disch := omega) only [fMX12_uses_0_0, fMX12_uses_0, four, obs, lit, litN, c, if_true]
  · rw [if_neg c]
    have p := parts_M nb (XD ρ f) (x := vdat V (a + 6) % 256) (y := 4) (by omega) (by omega)
    simp (disch := omega) only [fMX12_uses_0_0, fMX12_uses_0, four, obs, lit, litN, nI_z, c, if_false, nI_add, one, p, nI_mul]
    congr 3; unfold spc; omega
set_option maxRecDepth 4096 in
theorem two_A {nb : Nat} {V : VV} {τ : XS} {f : Nat → Nat} (hn : nb ≤ 512) (R : RM nb V τ f) {a : Nat} (h : Adr nb V a) (ρ : XS) : fMX12_two_0 nb (nI (a + 4)) (XD ρ f) = some (nI (rd2 (vdat V) (a + 4)), XD ρ f) := by
  have hya := Adr_lt hn h
  rw [two_M nb ρ f (by omega), RMd_2 R h]
set_option maxRecDepth 4096 in
theorem spot1_M {nb : Nat} {V : VV} {τ : XS} {f : Nat → Nat} (hn : nb ≤ 512) (R : RM nb V τ f) {m b x : Nat} (hm : m ≤ 255) (hb : b < nb) (ht : vot V b = 3) (be se : Int32) :
    ∀ (l : List Nat) (a : Nat) (fo : Int32) (n : Nat), Seg (vdat V) l a (1024 * b + 1024) → 1024 * b ≤ a → a % 4 = 0 → LO nb V l → l.length < n →
    (∃ l1 y l2, l = l1 ++ y :: l2 ∧ rmf (vdat V) m y ∧ (∀ c ∈ l1, ¬ rmf (vdat V) m c) ∧ ∀ k26, lfix (fun k46 t => fMX12_spot_0_46 nb k26 k46 t.1 t.2.1 t.2.2.1 t.2.2.2.1 t.2.2.2.2) n (nI (spc m), nI b, nI x, nI a, XD (fnd τ fo be se) f) = some (if usd (vdat V) y = 0 then nI 2 else nI 1, XD (fnd τ (nI y) be se) f)) ∨
    ((∀ c ∈ l, ¬ rmf (vdat V) m c) ∧ ∃ fo', ∀ k26, lfix (fun k46 t => fMX12_spot_0_46 nb k26 k46 t.1 t.2.1 t.2.2.1 t.2.2.2.1 t.2.2.2.2) n (nI (spc m), nI b, nI x, nI a, XD (fnd τ fo be se) f) = k26 (nI (spc m), τ.2.1 5 b, nI (x + 1), XD (fnd τ fo' be se) f)) := by
  have hsp : spc m < 1000 := by unfold spc; omega
  intro l
  induction l with
  | nil =>
    intro a fo n h1 h2 h3 h4 h5
    obtain ⟨n, rfl⟩ : ∃ k, n = k + 1 := ⟨n - 1, by omega⟩
    have h1 : a = 1024 * b + 1024 := h1
    right
    refine ⟨fun c hc => (by cases hc), fo, fun k26 => ?_⟩
    show fMX12_spot_0_46 nb k26 _ (nI (spc m)) (nI b) (nI x) (nI a) (XD (fnd τ fo be se) f) = _
    have x5 : (XD (fnd τ fo be se) f).2.1 5 b = τ.2.1 5 b := XD_k _ _ _ _ (by omega)
    simp (disch := omega) only [fMX12_spot_0_46, lit, litN, nI_mul, nI_add, nI_ltI', nI_leI', nI_eqI, nI_clampI, n_or, if_pos, if_neg, x5]
  | cons y l ih =>
    intro a fo n h1 h2 h3 h4 h5
    obtain ⟨n, rfl⟩ : ∃ k, n = k + 1 := ⟨n - 1, by omega⟩
    obtain ⟨a1, a2, a3, a4⟩ := h4 y (List.mem_cons_self ..)
    obtain ⟨g1, g2, g3, g4, g5⟩ := h1
    subst g1
    rw [List.length_cons] at h5
    have us := uses_M hn R a1
    have tw := two_A hn R a1
    have hu : usd (vdat V) y ≤ rd2 (vdat V) (y + 4) := by
      by_cases c : rd4 (vdat V) y = 0
      · unfold usd; rw [if_pos c]; omega
      · exact a4 c
    have hyb : y < 524288 := by have := Adr_lt hn a1; omega
    by_cases c : rmf (vdat V) m y
    · left
      have c' : usd (vdat V) y + spc m ≤ rd2 (vdat V) (y + 4) := c
      refine ⟨[], y, l, rfl, c, fun c hc => (by cases hc), fun k26 => ?_⟩
      show fMX12_spot_0_46 nb k26 _ (nI (spc m)) (nI b) (nI x) (nI y) (XD (fnd τ fo be se) f) = _
      by_cases c2 : usd (vdat V) y = 0
      · rw [if_pos c2]
        simp (disch := omega) only [fMX12_spot_0_46, lit, litN, nI_mul, nI_add, nI_ltI', nI_leI', nI_eqI, nI_clampI, if_neg, XD_S, fnd_10, tw, obs, us, nI_sub, c2, if_true]
      · rw [if_neg c2]
        simp (disch := omega) only [fMX12_spot_0_46, lit, litN, nI_mul, nI_add, nI_ltI', nI_leI', nI_eqI, nI_clampI, if_neg, XD_S, fnd_10, tw, obs, us, nI_sub]
    · have c' : ¬ usd (vdat V) y + spc m ≤ rd2 (vdat V) (y + 4) := c
      have gen : ∀ k26 K, fMX12_spot_0_46 nb k26 K (nI (spc m)) (nI b) (nI x) (nI y) (XD (fnd τ fo be se) f) = K (nI (spc m), nI b, nI x, nI (y + rd2 (vdat V) (y + 4)), XD (fnd τ (nI y) be se) f) := fun k26 K => by
        simp (disch := omega) only [fMX12_spot_0_46, lit, litN, nI_mul, nI_add, nI_ltI', nI_leI', nI_eqI, nI_clampI, if_neg, if_pos, XD_S, fnd_10, tw, obs, us, nI_sub]
      rcases ih (y + rd2 (vdat V) (y + 4)) (nI y) n g5 (by omega) (by omega) (fun c hc => h4 c (List.mem_cons_of_mem _ hc)) (by omega) with ⟨l1, z, l2, q1, q2, q3, q4⟩ | ⟨q1, fo', q2⟩
      · left
        refine ⟨y :: l1, z, l2, by rw [q1]; rfl, q2, fun c' hc => ?_, fun k26 => ?_⟩
        · rcases List.mem_cons.mp hc with e | e
          · rw [e]; exact c
          · exact q3 c' e
        · show fMX12_spot_0_46 nb k26 _ (nI (spc m)) (nI b) (nI x) (nI y) (XD (fnd τ fo be se) f) = _
          rw [gen]; exact q4 k26
      · right
        refine ⟨fun c' hc => ?_, fo', fun k26 => ?_⟩
        · rcases List.mem_cons.mp hc with e | e
          · rw [e]; exact c
          · exact q1 c' e
        · show fMX12_spot_0_46 nb k26 _ (nI (spc m)) (nI b) (nI x) (nI y) (XD (fnd τ fo be se) f) = _
          rw [gen]; exact q2 k26
set_option maxRecDepth 4096 in
theorem spot2_M {nb : Nat} {V : VV} (A : Stc nb V) {τ : XS} {f : Nat → Nat} (R : RM nb V τ f) {i s : Nat} (hs : s ≤ 255) (hi : i < 2100) (hh : τ.1 9 = nI i) (hl : live V i) (H : DS nb V i) (be se : Int32) :
    ∀ (m x : Nat) (fo bx : Int32) (n : Nat), x + m = vmn V i → LO nb V (flt (ves V i) x m) → (flt (ves V i) x m).length < 100000000 → m < n → (m ≠ 0 → bx = nI (vbl V i x)) →
    (∃ l1 y l2, flt (ves V i) x m = l1 ++ y :: l2 ∧ rmf (vdat V) s y ∧ (∀ c ∈ l1, ¬ rmf (vdat V) s c) ∧ lfix (fun k26 t => fMX12_spot_0_26 nb k26 t.1 t.2.1 t.2.2.1 t.2.2.2) n (nI (spc s), bx, nI x, XD (fnd τ fo be se) f) = some (if usd (vdat V) y = 0 then nI 2 else nI 1, XD (fnd τ (nI y) be se) f)) ∨
    ((∀ c ∈ flt (ves V i) x m, ¬ rmf (vdat V) s c) ∧ ∃ fo', lfix (fun k26 t => fMX12_spot_0_26 nb k26 t.1 t.2.1 t.2.2.1 t.2.2.2) n (nI (spc s), bx, nI x, XD (fnd τ fo be se) f) = some (nI 0, XD (fnd τ fo' be se) f)) := by
  have hg := G_lt A.1
  have hmn := mn_lt A.1 A.2.2 hl
  have x9 : ∀ fo, (XD (fnd τ fo be se) f).2.1 9 i = nI (vmn V i) := fun fo => by rw [XD_k _ _ _ _ (by omega)]; exact (R.2.2.1 i hi).2.2.2.1
  have s9 : ∀ fo, (XD (fnd τ fo be se) f).1 9 = nI i := fun fo => hh
  intro m
  induction m with
  | zero =>
    intro x fo bx n h1 h2 h3 h4 h5
    obtain ⟨n, rfl⟩ : ∃ k, n = k + 1 := ⟨n - 1, by omega⟩
    right
    refine ⟨fun c hc => (by cases hc), fo, ?_⟩
    show fMX12_spot_0_26 nb _ (nI (spc s)) bx (nI x) (XD (fnd τ fo be se) f) = _
    simp (disch := omega) only [fMX12_spot_0_26, s9, lit, litN, nI_ltI', nI_leI', nI_eqI, nI_clampI, n_or, if_neg, x9, if_pos]
  | succ m ih =>
    intro x fo bx n h1 h2 h3 h4 h5
    obtain ⟨n, rfl⟩ : ∃ k, n = k + 1 := ⟨n - 1, by omega⟩
    have hbx := h5 (by omega)
    subst hbx
    have hxm : x < vmn V i := by omega
    obtain ⟨o0, o1, o2, o3, o4⟩ := A.2.2.1 i x hl hxm
    have hS := H.2.2 x hxm
    rw [flt] at h2 h3 ⊢
    rw [List.length_append] at h3
    have gen : ∀ K, fMX12_spot_0_26 nb K (nI (spc s)) (nI (vbl V i x)) (nI x) (XD (fnd τ fo be se) f) = lfix (fun k46 t => fMX12_spot_0_46 nb K k46 t.1 t.2.1 t.2.2.1 t.2.2.2.1 t.2.2.2.2) FU (nI (spc s), nI (vbl V i x), nI x, nI (1024 * vbl V i x), XD (fnd τ fo be se) f) := fun K => by
      simp (disch := omega) only [fMX12_spot_0_26, s9, lit, litN, nI_ltI', nI_leI', nI_eqI, nI_clampI, n_or, if_neg, x9, nI_mul]
    have f1 := spot1_M (by omega) R (x := x) hs o1 o2 be se (ves V i x) (1024 * vbl V i x) fo FU hS (Nat.le_refl _) (by omega) (fun c hc => h2 c (List.mem_append_left _ hc)) (by unfold FU; omega)
    rcases f1 with ⟨l1, y, l2, q1, q2, q3, q4⟩ | ⟨q1, fo', q2⟩
    · left
      refine ⟨l1, y, l2 ++ flt (ves V i) (x + 1) m, by rw [q1]; simp, q2, q3, ?_⟩
      show fMX12_spot_0_26 nb _ (nI (spc s)) (nI (vbl V i x)) (nI x) (XD (fnd τ fo be se) f) = _
      rw [gen]; exact q4 _
    · have hnx : m ≠ 0 → τ.2.1 5 (vbl V i x) = nI (vbl V i (x + 1)) := fun hm => by
        rw [R.2.2.2.2.2.2.1 i x hi hl hxm, if_pos (by omega)]
      rcases ih (x + 1) fo' (τ.2.1 5 (vbl V i x)) n (by omega) (fun c hc => h2 c (List.mem_append_right _ hc)) (by omega) (by omega) hnx with ⟨l1, y, l2, z1, z2, z3, z4⟩ | ⟨z1, fo2, z2⟩
      · left
        refine ⟨ves V i x ++ l1, y, l2, by rw [z1]; simp, z2, fun c hc => ?_, ?_⟩
        · rcases List.mem_append.mp hc with e | e
          · exact q1 c e
          · exact z3 c e
        · show fMX12_spot_0_26 nb _ (nI (spc s)) (nI (vbl V i x)) (nI x) (XD (fnd τ fo be se) f) = _
          rw [gen, q2]; exact z4
      · right
        refine ⟨fun c hc => ?_, fo2, ?_⟩
        · rcases List.mem_append.mp hc with e | e
          · exact q1 c e
          · exact z1 c e
        · show fMX12_spot_0_26 nb _ (nI (spc s)) (nI (vbl V i x)) (nI x) (XD (fnd τ fo be se) f) = _
          rw [gen, q2]; exact z2
set_option maxRecDepth 4096 in
theorem spot_M {nb : Nat} {V : VV} (A : Stc nb V) {τ : XS} {f : Nat → Nat} (R : RM nb V τ f) {i s : Nat} (hs : s ≤ 255) (h12 : τ.1 12 = nI s) (hi : i < 2100) (hh : τ.1 9 = nI i) (hl : live V i) (H : DS2 nb V i) (hL : LO nb V (fl V i)) :
    (∃ l1 y l2, fl V i = l1 ++ y :: l2 ∧ rmf (vdat V) s y ∧ (∀ c ∈ l1, ¬ rmf (vdat V) s c) ∧ fMX12_spot_0 nb (XD τ f) = some (if usd (vdat V) y = 0 then nI 2 else nI 1, XD (fnd τ (nI y) (τ.1 11) (τ.1 13)) f)) ∨
    ((∀ c ∈ fl V i, ¬ rmf (vdat V) s c) ∧ ∃ fo', fMX12_spot_0 nb (XD τ f) = some (nI 0, XD (fnd τ fo' (τ.1 11) (τ.1 13)) f)) := by
  have hg := G_lt A.1
  have hmn := mn_lt A.1 A.2.2 hl
  have h1 := H.1.1
  have p := parts_M nb (XD τ f) (x := s) (y := 4) (by omega) (by omega)
  have e8 : 8 + (s + 4 - 1) / 4 * 4 = spc s := by unfold spc; omega
  have s9 : (XD τ f).1 9 = nI i := hh
  have s12 : (XD τ f).1 12 = nI s := h12
  have x10 : (XD τ f).2.1 10 i = nI (vbl V i 0) := by
    rw [XD_k _ _ _ _ (by omega), (R.2.2.1 i hi).2.2.2.2.2.2.1]; unfold fst0; rw [if_neg (by omega)]
  have hl2 := H.2.1
  have f2 := spot2_M A R hs hi hh hl H.1 (τ.1 11) (τ.1 13) (vmn V i) 0 (τ.1 10) (nI (vbl V i 0)) FU (by omega) hL (by unfold fl at hl2; omega) (by unfold FU; omega) (fun _ => rfl)
  rw [fnd_e] at f2
  rcases f2 with ⟨l1, y, l2, q1, q2, q3, q4⟩ | ⟨q1, fo', q2⟩
  · left
    refine ⟨l1, y, l2, q1, q2, q3, ?_⟩
    simp (disch := omega) only [fMX12_spot_0, fMX12_spot_0_0, s12, lit, litN, p, obs, s9, nI_ltI', nI_leI', nI_eqI, nI_clampI, n_or, if_neg, nI_mul, nI_add, e8, x10]
    exact q4
  · right
    refine ⟨q1, fo', ?_⟩
    simp (disch := omega) only [fMX12_spot_0, fMX12_spot_0_0, s12, lit, litN, p, obs, s9, nI_ltI', nI_leI', nI_eqI, nI_clampI, n_or, if_neg, nI_mul, nI_add, e8, x10]
    exact q2
