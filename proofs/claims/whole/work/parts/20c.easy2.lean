set_option maxRecDepth 4096 in
theorem p_about (nb : Nat) (h5 : nb ≤ 512) : St_about nb (INV nb) := by
  intro σ τ x0 x1 I
  obtain ⟨k, hk, rfl⟩ := nI_all x0
  obtain ⟨j, hj, rfl⟩ := nI_all x1
  rcases I.2.2 with ⟨h0, h2, hd, f, hf⟩ | ⟨V, d, f, h, H⟩
  · refine ⟨(1, 0, σ), (0, stS τ 0 (nI 1)), ?_, ?_, nmR I h0 h2 hd hf _, .inr (.inl ⟨rfl, stS_e _ _ _⟩)⟩
    · simp only [fXX0_about_0, fXX0_about_0_0, itemHere_X0 h0, obs, show ¬ (1 : Nat) = 0 by omega, if_false]
    · simp only [fMX12_about_0, fMX12_about_0_0, no_M0 h2, obs, lit, nI10, if_false]
  · have H0 := H
    obtain ⟨G, hd, D, S, m1, h1, hkd, hf, R, h9, sh⟩ := H
    rcases itemHere_X H0 hk with ⟨q, a, ρ, k1, k2, k3, k4, k5, k6⟩ | ⟨k5, ρ, k1, k6⟩
    · rcases no_M H0 hk with ⟨a', be, n1, n2, n3⟩ | ⟨n1, _⟩
      · obtain rfl : a = a' := by rw [k5] at n1; injection n1
        obtain ⟨E, a1, a2, a3, a4, a5, a6⟩ := itmF G hkd k5
        obtain ⟨hl, DI, D2, hL⟩ := dirF G hkd
        have io := inodeOf_X h5 D k2 hL k4
        have S1 := Sc_keep k1 S
        have s10 : ∀ ρ' : XS, (XD (fnd ρ' (nI a) be (nI k)) f).1 10 = nI a := fun _ => rfl
        have fo := four_F h5 R a1
        obtain ⟨i, hi⟩ : ∃ i, rd4 (vdat V) a = i := ⟨_, rfl⟩
        rw [hi] at io fo a3 a5
        have li : live V i := by rw [← hi]; exact E.2.2.1
        obtain ⟨in1, in2, in3⟩ := G.ino li
        have rr := R.2.2.1 i in3
        have t0 : ∀ v, (XD (fnd (stS τ 0 v) (nI a) be (nI k)) f).1 0 = v := fun v => tF _ _ _ _
        have f0 := fails_0 nb (t0 (nI 0)) (nI 3)
        have f1 := fails_1 nb (t0 (nI 0)) (c := 3) (by omega) (by omega)
        rw [XD_S, fnd_S0, stS_S] at f1
        have fin : ∀ (o1 : Int64) , fXX0_about_0 nb (nI k) (nI j) σ = some (0, o1, XD ρ d) → fMX12_about_0 nb (nI k) (nI j) τ = some (o1, XD (fnd (stS τ 0 (nI 0)) (nI a) be (nI k)) f) →
            ∃ (o1 : (Nat × Int64 × XS)) (o2 : (Int64 × XS)), fXX0_about_0 nb (nI k) (nI j) σ = some o1 ∧ fMX12_about_0 nb (nI k) (nI j) τ = some o2 ∧ INV nb o1.2.2 o2.2 ∧ ((o1.1 = 0 ∧ o2.2.1 0 = 0 ∧ o1.2.1 = o2.1) ∨ (o1.1 = 1 ∧ o2.2.1 0 = 1) ∨ (o1.1 = 2 ∧ o2.2.1 0 = 2) ∨ (o1.1 = 3 ∧ o2.2.1 0 = 3)) := fun o1 e1 e2 => ⟨_, _, e1, e2, INV_ro I H0 k1 (kF _ _ _ _), .inl ⟨rfl, tF _ _ _ _, rfl⟩⟩
        by_cases c7 : j < 7
        · have hlt : ¬ nI j < nI 0 := nI_nn (by omega)
          have x6 : ∀ ρ' : XS, ρ'.2 = τ.2 → (XD ρ' f).2.1 6 i = nI (vkd V i) := fun ρ' e => by rw [XD_k _ _ _ _ (by omega), e]; exact rr.1
          have x7 : ∀ ρ' : XS, ρ'.2 = τ.2 → (XD ρ' f).2.1 7 i = nI (vsz V i) := fun ρ' e => by rw [XD_k _ _ _ _ (by omega), e]; exact rr.2.1
          have x8 : ∀ ρ' : XS, ρ'.2 = τ.2 → (XD ρ' f).2.1 8 i = nI (vlk V i) := fun ρ' e => by rw [XD_k _ _ _ _ (by omega), e]; exact rr.2.2.1
          have y6 := x6 (fnd (stS τ 0 (nI 0)) (nI a) be (nI k)) rfl
          have y7 := x7 (fnd (stS τ 0 (nI 0)) (nI a) be (nI k)) rfl
          have y8 := x8 (fnd (stS τ 0 (nI 0)) (nI a) be (nI k)) rfl
          have h4 := G.2.2.2.2.2.1.1 i
          have hsz := G.sz i
          have L0 := lit 0; have L1 := lit 1; have L2 := lit 2; have L3 := lit 3; have L4 := lit 4; have L5 := lit 5; have L6 := lit 6
          by_cases e0 : j = 0
          · subst e0
            refine fin (nI i).toInt64 ?_ ?_
            · simp only [fXX0_about_0, fXX0_about_0_0, k6, obs, if_true, io, L0]
            · simp (disch := omega) only [fMX12_about_0, fMX12_about_0_0, fMX12_about_0_24, n3, obs, L0, L6, L3, if_true, if_false, nI_ltI', nI_leI', nI_eqI, nI_clampI, if_pos, if_neg, f0, s10, fo]
          by_cases e1 : j = 1
          · subst e1
            have dd := isDir_X G.1.1 S1 D in1 in2
            by_cases ck : vkd V i = 2
            · rw [if_pos ck] at dd
              refine fin 1 ?_ ?_
              · simp (disch := omega) only [fXX0_about_0, fXX0_about_0_0, k6, obs, if_true, io, L0, L1, nI10, if_false, dd]
              · simp (disch := omega) only [fMX12_about_0, fMX12_about_0_0, fMX12_about_0_24, n3, obs, L0, L1, L2, L6, L3, if_true, nI_ltI', nI_leI', nI_eqI, nI_clampI, n_or, if_pos, if_neg, f0, s10, fo, y6, ck]
            · rw [if_neg ck] at dd
              refine fin 0 ?_ ?_
              · simp (disch := omega) only [fXX0_about_0, fXX0_about_0_0, k6, obs, if_true, io, L0, L1, nI10, if_false, dd]
              · simp (disch := omega) only [fMX12_about_0, fMX12_about_0_0, fMX12_about_0_24, n3, obs, L0, L1, L2, L6, L3, if_true, nI_ltI', nI_leI', nI_eqI, nI_clampI, n_or, if_pos, if_neg, f0, s10, fo, y6]
          by_cases e2 : j = 2
          · subst e2
            have ss := size_X G.1.1 S1 D in1 in2 li (by omega)
            refine fin (nI (vsz V i)).toInt64 ?_ ?_
            · simp (disch := omega) only [fXX0_about_0, fXX0_about_0_0, k6, obs, if_true, io, L0, L1, L2, nI_ltI', nI_leI', nI_eqI, nI_clampI, if_neg, ss]
            · simp (disch := omega) only [fMX12_about_0, fMX12_about_0_0, fMX12_about_0_24, n3, obs, L0, L1, L2, L6, L3, if_true, nI_ltI', nI_leI', nI_eqI, nI_clampI, n_or, if_pos, if_neg, f0, s10, fo, y7]
          by_cases e3 : j = 3
          · subst e3
            have hlk : vlk V i < 65536 := by
              rcases li with c | c
              · have := G.2.2.2.2.2.2.2.2.2.1 i c; omega
              · have D3 := (dirF G c).2.1.2.2.2.2.2
                have hle := itm_len (f := vdat V) (dirF G c).2.2.1.2.1
                have := List.length_filter_le (isD V) (itm (vdat V) (fl V i)); omega
            have ss := links_X G.1.1 S1 D in1 in2 li hlk
            refine fin (nI (vlk V i)).toInt64 ?_ ?_
            · simp (disch := omega) only [fXX0_about_0, fXX0_about_0_0, k6, obs, if_true, io, L0, L1, L2, L3, nI_ltI', nI_leI', nI_eqI, nI_clampI, if_neg, ss]
            · simp (disch := omega) only [fMX12_about_0, fMX12_about_0_0, fMX12_about_0_24, n3, obs, L0, L1, L2, L6, L3, if_true, nI_ltI', nI_leI', nI_eqI, nI_clampI, n_or, if_pos, if_neg, f0, s10, fo, y8]
          · obtain ⟨w, hw, hw2⟩ : ∃ w, w < 3 ∧ j = w + 4 := ⟨j - 4, by omega, by omega⟩
            have hv := G.2.2.2.2.2.2.2.2.2.2.2.1 (3 * i + w)
            have tt := time_X G.1.1 S1 D in1 in2 li hw hv
            rw [i64_and _ hv] at tt
            have tm : (XD (fnd (stS τ 0 (nI 0)) (nI a) be (nI k)) f).2.2 0 (3 * i + w) = Int64.ofNat (vtm V (3 * i + w)) := R.2.2.2.2.2.1 _ (by omega)
            have ej : nI j - nI 4 = nI w := by rw [nI_sub (by omega)]; congr 1; omega
            have ei : 3 * i + j - 4 = 3 * i + w := by omega
            refine fin (Int64.ofNat (vtm V (3 * i + w))) ?_ ?_
            · rcases (show w = 0 ∨ w = 1 ∨ w = 2 by omega) with rfl | rfl | rfl
              all_goals
                simp (disch := omega) only [fXX0_about_0, fXX0_about_0_0, k6, obs, if_true, io, L0, L1, L2, L3, L4, L5, L6, nI_ltI', nI_leI', nI_eqI, nI_clampI, if_neg, if_pos, ej, tt]
            · simp (disch := omega) only [fMX12_about_0, fMX12_about_0_0, fMX12_about_0_24, n3, obs, L0, L1, L2, L6, L3, L4, if_true, nI_ltI', nI_leI', nI_eqI, nI_clampI, n_or, if_pos, if_neg, f0, s10, fo, nI_mul, nI_add, nI_sub, ei, tm]
        · refine ⟨(3, 0, XD ρ d), (0, XD (fnd (stS τ 0 (nI 3)) (nI a) be (nI k)) f), ?_, ?_, INV_ro I H0 k1 (kF _ _ _ _), .inr (.inr (.inr ⟨rfl, tF _ _ _ _⟩))⟩
          · have L0 := lit 0; have L1 := lit 1; have L2 := lit 2; have L3 := lit 3; have L4 := lit 4; have L5 := lit 5; have L6 := lit 6
            simp (disch := omega) only [fXX0_about_0, fXX0_about_0_0, k6, obs, if_true, io, L0, L1, L2, L3, L4, L5, L6, nI_ne, if_neg]
          · have L0 := lit 0; have L1 := lit 1; have L6 := lit 6; have L3 := lit 3
            by_cases c : j < 2147483648
            · simp (disch := omega) only [fMX12_about_0, fMX12_about_0_0, fMX12_about_0_19, fMX12_about_0_24, n3, obs, L0, L1, L6, L3, if_true, nI_ltI', nI_leI', nI_eqI, nI_clampI, if_neg, f1]
            · have hneg := nI_neg (by omega) hj
              have e1 : fMX12_about_0 nb (nI k) (nI j) τ = fMX12_about_0_19 nb (nI j) (XD (fnd (stS τ 0 (nI 0)) (nI a) be (nI k)) f) := by
                simp only [fMX12_about_0, fMX12_about_0_0, n3, obs, L0, if_true]
                rw [if_pos hneg]
              rw [e1]
              simp only [fMX12_about_0_19, fMX12_about_0_24, L1, L3, f1, obs, L0, nI10, if_false]
      · rw [k5] at n1; cases n1
    · rcases no_M H0 hk with ⟨a', be, n1, n2, n3⟩ | ⟨n1, fo, be, se, n3⟩
      · rw [k5] at n1; cases n1
      · refine ⟨(2, 0, XD ρ d), (0, XD (fnd (stS τ 0 (nI 2)) fo be se) f), ?_, ?_, INV_ro I H0 k1 (kF _ _ _ _), .inr (.inr (.inl ⟨rfl, tF _ _ _ _⟩))⟩
        · simp only [fXX0_about_0, fXX0_about_0_0, k6, obs, show ¬ (2 : Nat) = 0 by omega, if_false]
        · simp only [fMX12_about_0, fMX12_about_0_0, n3, obs, lit, nI10, if_false]
