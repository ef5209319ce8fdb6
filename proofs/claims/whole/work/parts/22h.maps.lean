set_option maxRecDepth 4096 in
theorem due_t {r v : Nat} (hr : r < 8) (hv : v < 256) (h : ∀ t, t < 8 → r ≤ t → v / 2 ^ t % 2 = 1) : v &&& (255 * 2 ^ r &&& 255) = 255 * 2 ^ r &&& 255 :=
  (by decide +kernel : ∀ r, r < 8 → ∀ v, v < 256 → (∀ t, t < 8 → r ≤ t → v / 2 ^ t % 2 = 1) → v &&& (255 * 2 ^ r &&& 255) = 255 * 2 ^ r &&& 255) r hr v hv h
set_option maxRecDepth 4096 in
theorem tail4_X {nb : Nat} {V : VV} {d : Nat → Nat} {ρ : XS} (B : Bas nb V) (S : Sc V ρ) (D : DX nb V d) {x : Nat} (hx : x < vQ V) : fXX3_tailHolds_4 nb (nI x) (XD ρ d) = some (nI 1, XD ρ d) := by
  have hg := G_lt B
  have rI := realIn4_X B S d hx
  have pA := partAt_X B S d x 2
  have hlt := fx_lt B (r := 2) hx (by omega)
  have hgr := B.1.grp hx
  have hfr : rmB nb V x ≤ 2064 := by unfold rmB; split <;> omega
  have hone : ∀ k, rmB nb V x ≤ k → ub V x k = 1 := fun k hk => by
    unfold ub
    rw [if_pos]
    unfold rmB at hk
    by_cases q : vP V ≤ k
    · exact .inl q
    · right
      have : nb ≤ 1 + x * vP V + k := by split at hk <;> omega
      rw [B.2.2.2 _ this]; omega
  have byt : ∀ o, o < 1024 → d (1024 * (1 + x * vP V + 2) + o) % 256 = bits8 (fun t => ub V x (8 * o + t)) := fun o ho => by
    rw [fx_d B D (r := 2) hx (by omega) ho, fx_2, Nat.mod_eq_of_lt (bits8_lt (fun t => ub_le V x _))]
  generalize hF : rmB nb V x = F at *
  have key : ∃ _ : Unit, F / 8 ≤ 1024 ∧ ∀ u : Unit, lfix ((fun _ k25 t => fXX3_tailHolds_4_25 nb k25 t.1 t.2.1 t.2.2.1 t.2.2.2) u) FU (nI F, nI (1024 * (1 + x * vP V + 2)), nI (F / 8), XD ρ d) = some (nI 1, XD ρ d) := by
    refine lfor (κ := Unit) (fun _ k25 t => fXX3_tailHolds_4_25 nb k25 t.1 t.2.1 t.2.2.1 t.2.2.2) (fun o (_ : Unit) => (nI F, nI (1024 * (1 + x * vP V + 2)), nI o, XD ρ d)) (fun _ _ => some (nI 1, XD ρ d)) 1024 (fun o _ => F / 8 ≤ o) ?_ ?_ (F / 8) () FU (by omega) (Nat.le_refl _) (by unfold FU; omega)
    · rintro o _ ho h8
      refine ⟨(), by omega, fun _ K => ?_⟩
      have g := get_X (nb := nb) (a := 1024 * (1 + x * vP V + 2) + o) ρ d (by omega) (by omega)
      rw [byt o ho] at g
      have hb : bits8 (fun t => ub V x (8 * o + t)) < 256 := bits8_lt (fun t => ub_le V x _)
      have hbit : ∀ t, t < 8 → F ≤ 8 * o + t → bits8 (fun t => ub V x (8 * o + t)) / 2 ^ t % 2 = 1 := fun t ht hk => by
        rw [bits8_bit (fun t => ub_le V x _) ht]; exact hone _ hk
      generalize bits8 (fun t => ub V x (8 * o + t)) = v at *
      by_cases c : o = F / 8
      · subst c
        have e := due_t (r := F % 8) (v := v) (Nat.mod_lt _ (by omega)) hb (fun t ht hr => hbit t ht (by omega))
        have sh : (nI 255 <<< (nI (F % 8) &&& nI 31)) &&& nI 255 = nI (255 * 2 ^ (F % 8) &&& 255) := by rw [nI_sh31 (by omega), nI_shl (by omega), nI_and]
        have an : nI v &&& nI (255 * 2 ^ (F % 8) &&& 255) = nI (255 * 2 ^ (F % 8) &&& 255) := by rw [nI_and, e]
        generalize 255 * 2 ^ (F % 8) &&& 255 = w at *
        simp (disch := omega) only [fXX3_tailHolds_4_25, fXX3_tailHolds_4_60, lit, litN, nI_leI', if_neg, nI_div, if_pos, nI_mul, nI_sub_dm, sh, nI_add, g, obs, an, if_true]
      · have e := due_t (r := 0) (v := v) (by omega) hb (fun t ht hr => hbit t ht (by omega))
        have e' : v &&& 255 = 255 := e
        have an : nI v &&& nI 255 = nI 255 := by rw [nI_and, e']
        simp (disch := omega) only [fXX3_tailHolds_4_25, fXX3_tailHolds_4_60, lit, litN, nI_leI', if_neg, nI_div, nI_eqI, nI_add, g, obs, an, if_true]
    · rintro _ _ _ K
      simp (disch := omega) only [fXX3_tailHolds_4_25, lit, litN, nI_leI', if_pos]
  obtain ⟨_, _, h⟩ := key
  have h' := h ()
  simp (disch := omega) only [fXX3_tailHolds_4, fXX3_tailHolds_4_0, lit, litN, rI, obs, pA, nI_div]
  exact h'
set_option maxRecDepth 4096 in
theorem tail5_X {nb : Nat} {V : VV} {d : Nat → Nat} {ρ : XS} (B : Bas nb V) (S : Sc V ρ) (D : DX nb V d) {x : Nat} (hx : x < vQ V) : fXX3_tailHolds_5 nb (nI x) (XD ρ d) = some (nI 1, XD ρ d) := by
  have hg := G_lt B
  have rI := realIn5_X B S d (nI x)
  have pA := partAt_X B S d x 3
  have hlt := fx_lt B (r := 3) hx (by omega)
  have hgr := B.1.grp hx
  have hfr : vG V ≤ 2064 := by omega
  have hone : ∀ k, vG V ≤ k → ui V x k = 1 := fun k hk => by
    unfold ui
    rw [if_pos]
    exact .inl hk
  have byt : ∀ o, o < 1024 → d (1024 * (1 + x * vP V + 3) + o) % 256 = bits8 (fun t => ui V x (8 * o + t)) := fun o ho => by
    rw [fx_d B D (r := 3) hx (by omega) ho, fx_3, Nat.mod_eq_of_lt (bits8_lt (fun t => ui_le V x _))]
  generalize hF : vG V = F at *
  have key : ∃ _ : Unit, F / 8 ≤ 1024 ∧ ∀ u : Unit, lfix ((fun _ k25 t => fXX3_tailHolds_5_25 nb k25 t.1 t.2.1 t.2.2.1 t.2.2.2) u) FU (nI F, nI (1024 * (1 + x * vP V + 3)), nI (F / 8), XD ρ d) = some (nI 1, XD ρ d) := by
    refine lfor (κ := Unit) (fun _ k25 t => fXX3_tailHolds_5_25 nb k25 t.1 t.2.1 t.2.2.1 t.2.2.2) (fun o (_ : Unit) => (nI F, nI (1024 * (1 + x * vP V + 3)), nI o, XD ρ d)) (fun _ _ => some (nI 1, XD ρ d)) 1024 (fun o _ => F / 8 ≤ o) ?_ ?_ (F / 8) () FU (by omega) (Nat.le_refl _) (by unfold FU; omega)
    · rintro o _ ho h8
      refine ⟨(), by omega, fun _ K => ?_⟩
      have g := get_X (nb := nb) (a := 1024 * (1 + x * vP V + 3) + o) ρ d (by omega) (by omega)
      rw [byt o ho] at g
      have hb : bits8 (fun t => ui V x (8 * o + t)) < 256 := bits8_lt (fun t => ui_le V x _)
      have hbit : ∀ t, t < 8 → F ≤ 8 * o + t → bits8 (fun t => ui V x (8 * o + t)) / 2 ^ t % 2 = 1 := fun t ht hk => by
        rw [bits8_bit (fun t => ui_le V x _) ht]; exact hone _ hk
      generalize bits8 (fun t => ui V x (8 * o + t)) = v at *
      by_cases c : o = F / 8
      · subst c
        have e := due_t (r := F % 8) (v := v) (Nat.mod_lt _ (by omega)) hb (fun t ht hr => hbit t ht (by omega))
        have sh : (nI 255 <<< (nI (F % 8) &&& nI 31)) &&& nI 255 = nI (255 * 2 ^ (F % 8) &&& 255) := by rw [nI_sh31 (by omega), nI_shl (by omega), nI_and]
        have an : nI v &&& nI (255 * 2 ^ (F % 8) &&& 255) = nI (255 * 2 ^ (F % 8) &&& 255) := by rw [nI_and, e]
        generalize 255 * 2 ^ (F % 8) &&& 255 = w at *
        simp (disch := omega) only [fXX3_tailHolds_5_25, fXX3_tailHolds_5_60, lit, litN, nI_leI', if_neg, nI_div, if_pos, nI_mul, nI_sub_dm, sh, nI_add, g, obs, an, if_true]
      · have e := due_t (r := 0) (v := v) (by omega) hb (fun t ht hr => hbit t ht (by omega))
        have e' : v &&& 255 = 255 := e
        have an : nI v &&& nI 255 = nI 255 := by rw [nI_and, e']
        simp (disch := omega) only [fXX3_tailHolds_5_25, fXX3_tailHolds_5_60, lit, litN, nI_leI', if_neg, nI_div, nI_eqI, nI_add, g, obs, an, if_true]
    · rintro _ _ _ K
      simp (disch := omega) only [fXX3_tailHolds_5_25, lit, litN, nI_leI', if_pos]
  obtain ⟨_, _, h⟩ := key
  have h' := h ()
  simp (disch := omega) only [fXX3_tailHolds_5, fXX3_tailHolds_5_0, lit, litN, rI, obs, pA, nI_div]
  exact h'
set_option maxRecDepth 4096 in
theorem mapsH_X {nb : Nat} {V : VV} (G : Good nb V) {ρ : XS} {d : Nat → Nat} (S : Sc V ρ) (D : DX nb V d) {c : Nat → Nat} (C : CI nb V (vQ V * vG V + 1) c) (hc : ∀ b, b < nb → ρ.2.1 3 b = nI (c b)) : fXX7_mapsHold_10 nb (XD ρ d) = some (nI 1, XD ρ d) := by
  have A := G.1
  have hg := G_lt A.1
  obtain ⟨k1, k2, k3, k4, k5, k6⟩ := G.2.2.2.2.2.1
  obtain ⟨O1, O2, O3, O4, O5, O6, O7, O8⟩ := A.2.2
  have k10 : (nI 1 = nI 0) = False := eq_false nI10
  have gX := groups_X A.1 S d
  have key3 : ∃ _ : Unit, True ∧ ∀ u : Unit, lfix ((fun _ k73 t => fXX7_mapsHold_10_73 nb k73 t.1 t.2) u) FU (nI 0, XD ρ d) = some (nI 1, XD ρ d) := by
    refine lfor (κ := Unit) (fun _ k73 t => fXX7_mapsHold_10_73 nb k73 t.1 t.2) (fun x (_ : Unit) => (nI x, XD ρ d)) (fun _ _ => some (nI 1, XD ρ d)) (vQ V) (fun _ _ => True) ?_ ?_ 0 () FU (Nat.zero_le _) trivial (by unfold FU; omega)
    · rintro x _ hx _
      refine ⟨(), trivial, fun _ K => ?_⟩
      have t4 := tail4_X A.1 S D hx
      have t5 := tail5_X A.1 S D hx
      simp (disch := omega) only [fXX7_mapsHold_10_73, gX, obs, nI_leI', if_neg, t4, lit, litN, k10, if_false, t5, nI_add]
    · rintro _ _ _ K
      simp (disch := omega) only [fXX7_mapsHold_10_73, gX, obs, nI_leI', if_pos, lit, litN]
  obtain ⟨_, _, e3⟩ := key3
  have e3 := e3 ()
  have key2 : ∃ _ : Unit, 1 ≤ 12 ∧ ∀ u : Unit, lfix ((fun _ k46 t => fXX7_mapsHold_10_46 nb k46 t.1 t.2) u) FU (nI 1, XD ρ d) = some (nI 1, XD ρ d) := by
    refine lfor (κ := Unit) (fun _ k46 t => fXX7_mapsHold_10_46 nb k46 t.1 t.2) (fun i (_ : Unit) => (nI i, XD ρ d)) (fun _ _ => some (nI 1, XD ρ d)) 12 (fun i _ => 1 ≤ i) ?_ ?_ 1 () FU (by omega) (by omega) (by unfold FU; omega)
    · rintro i _ hi h1
      refine ⟨(), by omega, fun _ K => ?_⟩
      have uX := isUsed5_X A.1 S D (i := i) h1 (by omega)
      have : vkd V i ≠ 0 := by
        by_cases q : i = 2
        · rw [q, k5]; omega
        · rw [k4 i h1 hi q]; omega
      rw [if_pos this] at uX
      simp (disch := omega) only [fXX7_mapsHold_10_46, lit, litN, nI_ltI', if_neg, uX, obs, k10, if_false, nI_add]
    · rintro _ _ _ K
      simp (disch := omega) only [fXX7_mapsHold_10_46, lit, litN, nI_ltI', if_pos]
      exact e3
  obtain ⟨_, _, e2⟩ := key2
  have e2 := e2 ()
  have key1 : ∃ _ : Unit, 1 ≤ nb ∧ ∀ u : Unit, lfix ((fun _ k2 t => fXX7_mapsHold_10_2 nb k2 t.1 t.2) u) FU (nI 1, XD ρ d) = some (nI 1, XD ρ d) := by
    refine lfor (κ := Unit) (fun _ k2 t => fXX7_mapsHold_10_2 nb k2 t.1 t.2) (fun b (_ : Unit) => (nI b, XD ρ d)) (fun _ _ => some (nI 1, XD ρ d)) nb (fun b _ => 1 ≤ b) ?_ ?_ 1 () FU (by omega) (by omega) (by unfold FU; omega)
    · rintro b _ hb h1
      refine ⟨(), by omega, fun _ K => ?_⟩
      have uX := isUsed4_X A.1 S D (b := b) h1 hb
      have ok := G.2.2.2.2.2.2.1 b
      have ok1 := ok.1; have ok2 := ok.2 h1 hb
      have e : (XD ρ d).2.1 3 b = nI (c b) := by rw [XD_o _ _ (by omega)]; exact hc b hb
      rw [C b hb] at e
      by_cases q : vot V b = 0
      · rw [if_neg (by omega)] at e uX
        simp (disch := omega) only [fXX7_mapsHold_10_2, fXX7_mapsHold_10_33, lit, litN, nI_leI', if_neg, uX, obs, nI_clampI, n_or, e, if_true, nI_add, nI_ltI']
      · have hi : vot V b = 2 ∨ (3 ≤ vot V b ∧ vot V b ≤ 6 ∧ voi V b < vQ V * vG V + 1) := by
          by_cases q2 : vot V b = 2
          · exact .inl q2
          · refine .inr ⟨by omega, ok2, ?_⟩
            have hl : live V (voi V b) := by
              rcases (show vot V b = 3 ∨ vot V b = 4 ∨ vot V b = 5 ∨ vot V b = 6 by omega) with w | w | w | w
              · exact (O2 b hb w).1
              · exact (O4 b hb w).1
              · exact (O6 b hb w).1
              · exact (O8 b hb w).1
            have := (G.ino hl).2.1; omega
        rw [if_pos hi] at e
        rw [if_pos q] at uX
        simp (disch := omega) only [fXX7_mapsHold_10_2, fXX7_mapsHold_10_33, lit, litN, nI_leI', if_neg, uX, obs, nI_clampI, n_or, e, k10, if_false, if_true, nI_add, nI_ltI']
    · rintro _ _ _ K
      simp (disch := omega) only [fXX7_mapsHold_10_2, lit, litN, nI_leI', if_pos]
      exact e2
  obtain ⟨_, _, e1⟩ := key1
  have e1 := e1 ()
  simp only [fXX7_mapsHold_10, fXX7_mapsHold_10_0, lit, litN]
  exact e1
