set_option maxRecDepth 4096 in
theorem p_content (nb : Nat) (h5 : nb ≤ 512) : St_content nb (INV nb) := by
  intro σ τ x0 x1 I
  obtain ⟨k, hk, rfl⟩ := nI_all x0
  obtain ⟨j, hj, rfl⟩ := nI_all x1
  rcases I.2.2 with ⟨h0, h2, hd, f, hf⟩ | ⟨V, d, f, h, H⟩
  · refine ⟨(1, nI 0, σ), (nI 0, stS τ 0 (nI 1)), ?_, ?_, nmR I h0 h2 hd hf _, .inr (.inl ⟨rfl, stS_e _ _ _⟩)⟩
    · simp only [fXX0_content_0, fXX0_content_0_0, itemHere_X0 h0, obs, show ¬ (1 : Nat) = 0 by omega, if_false, lit, litN]
    · simp only [fMX12_content_0, fMX12_content_0_0, no_M0 h2, obs, lit, litN, nI10, if_false]
  · have H0 := H
    obtain ⟨G, hd, D, S, m1, h1, hkd, hf, R, h9, sh⟩ := H
    have hg := G_lt G.1.1
    rcases itemHere_X H0 hk with ⟨q, a, ρ, k1, k2, k3, k4, k5, k6⟩ | ⟨k5, ρ, k1, k6⟩
    · rcases no_M H0 hk with ⟨a', be, n1, n2, n3⟩ | ⟨n1, _⟩
      · obtain rfl : a = a' := by rw [k5] at n1; injection n1
        obtain ⟨E, a1, a2, a3, a4, a5, a6⟩ := itmF G hkd k5
        obtain ⟨hl, DI, D2, hL⟩ := dirF G hkd
        have io := inodeOf_X h5 D k2 hL k4
        have S1 := Sc_keep k1 S
        have s10 : ∀ ρ' : XS, (XD (fnd ρ' (nI a) be (nI k)) f).1 10 = nI a := fun _ => rfl
        have fo := four_F h5 R a1
        obtain ⟨i, hi⟩ : ∃ i, rd4 (vdat V) a = i := ⟨_, rfl⟩
        rw [hi] at io fo a3 a5
        have li : live V i := by rw [← hi]; exact E.2.2.1
        obtain ⟨in1, in2, in3⟩ := G.ino li
        have rr := R.2.2.1 i in3
        have y6 : (XD (fnd (stS τ 0 (nI 0)) (nI a) be (nI k)) f).2.1 6 i = nI (vkd V i) := by rw [XD_k _ _ _ _ (by omega)]; exact rr.1
        have y7 : (XD (fnd (stS τ 0 (nI 0)) (nI a) be (nI k)) f).2.1 7 i = nI (vsz V i) := by rw [XD_k _ _ _ _ (by omega)]; exact rr.2.1
        have h4 := G.2.2.2.2.2.1.1 i
        have hsz := G.sz i
        have dd := isDir_X G.1.1 S1 D in1 in2
        have ss := size_X G.1.1 S1 D in1 in2 li (by omega)
        have fin : ∀ (o1 : Int32) , fXX0_content_0 nb (nI k) (nI j) σ = some (0, o1, XD ρ d) → fMX12_content_0 nb (nI k) (nI j) τ = some (o1, XD (fnd (stS τ 0 (nI 0)) (nI a) be (nI k)) f) →
            ∃ (o1 : (Nat × Int32 × XS)) (o2 : (Int32 × XS)), fXX0_content_0 nb (nI k) (nI j) σ = some o1 ∧ fMX12_content_0 nb (nI k) (nI j) τ = some o2 ∧ INV nb o1.2.2 o2.2 ∧ ((o1.1 = 0 ∧ o2.2.1 0 = 0 ∧ o1.2.1 = o2.1) ∨ (o1.1 = 1 ∧ o2.2.1 0 = 1) ∨ (o1.1 = 2 ∧ o2.2.1 0 = 2)) := fun o1 e1 e2 => ⟨_, _, e1, e2, INV_ro I H0 k1 (kF _ _ _ _), .inl ⟨rfl, tF _ _ _ _, rfl⟩⟩
        by_cases ck : vkd V i = 2
        · rw [if_pos ck] at dd
          refine fin (-nI 1) ?_ ?_
          · simp (disch := omega) only [fXX0_content_0, fXX0_content_0_0, k6, obs, if_true, io, lit, litN, dd, nI10, if_false]
          · simp (disch := omega) only [fMX12_content_0, fMX12_content_0_0, fMX12_content_0_43, n3, obs, lit, litN, if_true, s10, fo, nI_ltI', nI_leI', nI_eqI, nI_clampI, n_or, if_neg, y6, ck]
        · rw [if_neg ck] at dd
          by_cases c : j < 2147483648
          · by_cases c2 : j < vsz V i
            · have hmn : j / 1024 < vmn V i := by rw [← (G.2.2.2.1 i li).2]; unfold prt; omega
              have bo := blockOf_X G.1.1 S1 D G.1.2.2 in1 in2 li (G.2.2.2.1 i li).1 hmn
              have bm := blockOf_M G.1.1 G.1.2.2 (RM_fnd (a := nI a) (b := be) (c := nI k) (RM_S (m := 0) (v := nI 0) (by omega) R)) in3 li hmn
              obtain ⟨o0, o1, o2, o3, o4⟩ := G.1.2.2.1 i _ li hmn
              have hb := D _ (j % 1024) o1 (by omega) (by omega)
              rw [img_3 _ o2] at hb
              have hm := R.2.2.2.2.2.2.2.2 _ (j % 1024) o1 (by omega) o2
              have gx := get_X (nb := nb) (a := 1024 * vbl V i (j / 1024) + j % 1024) ρ d h5 (by omega)
              rw [hb] at gx
              have om := one_M nb (fnd (stS τ 0 (nI 0)) (nI a) be (nI k)) f (a := 1024 * vbl V i (j / 1024) + j % 1024) (by omega)
              rw [hm] at om
              refine fin (nI (vdat V (1024 * vbl V i (j / 1024) + j % 1024) % 256)) ?_ ?_
              · simp (disch := omega) only [fXX0_content_0, fXX0_content_0_0, k6, obs, if_true, io, lit, litN, dd, nI_ltI', nI_leI', nI_eqI, nI_clampI, if_neg, ss, if_pos, nI_div, nI_mul, nI_sub_dm, n_sdm, n_sdm', nI_sub, bo, m1024, nI_add, gx]
              · simp (disch := omega) only [fMX12_content_0, fMX12_content_0_0, fMX12_content_0_43, n3, obs, lit, litN, if_true, s10, fo, nI_ltI', nI_leI', nI_eqI, nI_clampI, n_or, if_neg, y6, y7, if_pos, nI_div, nI_mul, nI_sub_dm, n_sdm, n_sdm', nI_sub, bm, nI_add, om]
            · refine fin (-nI 1) ?_ ?_
              · simp (disch := omega) only [fXX0_content_0, fXX0_content_0_0, k6, obs, if_true, io, lit, litN, dd, nI_ltI', nI_leI', nI_eqI, nI_clampI, if_neg, ss]
              · simp (disch := omega) only [fMX12_content_0, fMX12_content_0_0, fMX12_content_0_43, n3, obs, lit, litN, if_true, s10, fo, nI_ltI', nI_leI', nI_eqI, nI_clampI, n_or, if_neg, y6, y7]
          · have hneg := nI_neg (by omega) hj
            refine fin (-nI 1) ?_ ?_
            · simp (disch := omega) only [fXX0_content_0, fXX0_content_0_0, k6, obs, if_true, io, lit, litN, dd, hneg]
            · simp (disch := omega) only [fMX12_content_0, fMX12_content_0_0, fMX12_content_0_43, n3, obs, lit, litN, if_true, s10, fo, nI_clampI, nI_nn, if_neg, n_or, y6, nI_ne, or_false, false_or, hneg]
      · rw [k5] at n1; cases n1
    · rcases no_M H0 hk with ⟨a', be, n1, n2, n3⟩ | ⟨n1, fo, be, se, n3⟩
      · rw [k5] at n1; cases n1
      · refine ⟨(2, nI 0, XD ρ d), (nI 0, XD (fnd (stS τ 0 (nI 2)) fo be se) f), ?_, ?_, INV_ro I H0 k1 (kF _ _ _ _), .inr (.inr ⟨rfl, tF _ _ _ _⟩)⟩
        · simp only [fXX0_content_0, fXX0_content_0_0, k6, obs, show ¬ (2 : Nat) = 0 by omega, if_false, lit, litN]
        · simp only [fMX12_content_0, fMX12_content_0_0, n3, obs, lit, litN, nI10, if_false]
set_option maxRecDepth 4096 in
theorem p_many (nb : Nat) (h5 : nb ≤ 512) : St_many nb (INV nb) := by
  intro σ τ x0 I
  obtain ⟨k, hk, rfl⟩ := nI_all x0
  rcases I.2.2 with ⟨h0, h2, hd, f, hf⟩ | ⟨V, d, f, h, H⟩
  · refine ⟨(-nI 1, σ), (-nI 1, stS τ 0 (nI 0)), ?_, ?_, rfl, nmR I h0 h2 hd hf _⟩
    · simp only [fXX0_many_0, fXX0_many_0_0, h0, lit, litN, if_true]
    · simp only [fMX12_many_0, fMX12_many_0_0, h2, lit, litN, if_true]
  · have H0 := H
    obtain ⟨G, hd, D, S, m1, h1, hkd, hf, R, h9, sh⟩ := H
    have e0 : XD (stS τ 0 (nI 0)) f = stS τ 0 (nI 0) := by rw [← XD_S, XDe hf]
    have R0 : RM nb V (stS τ 0 (nI 0)) f := RM_S (by omega) R
    have fin : ∀ o : Int32, fXX0_many_0 nb (nI k) σ = some (o, σ) → fMX12_many_0 nb (nI k) τ = some (o, stS τ 0 (nI 0)) → ∃ (o1 : (Int32 × XS)) (o2 : (Int32 × XS)), fXX0_many_0 nb (nI k) σ = some o1 ∧ fMX12_many_0 nb (nI k) τ = some o2 ∧ o1.1 = o2.1 ∧ INV nb o1.2 o2.2 := fun o e1 e2 => ⟨_, _, e1, e2, rfl, by
      have := INV_ro I H0 (keepX_rfl σ) (keepT_S τ (m := 0) (nI 0) (by omega))
      rw [XDe hd, e0] at this; exact this⟩
    by_cases c0 : k = 0
    · subst c0
      have fx := free4_C G.1.1 S D G.1.2.1
      have fm := freeB_M G.1.1 R0
      rw [XDe hd] at fx
      rw [e0] at fm
      refine fin (nI (nfb V)) ?_ ?_
      · simp only [fXX0_many_0, fXX0_many_0_0, m1, lit, litN, nI10, if_false, if_true, fx, obs]
      · simp only [fMX12_many_0, fMX12_many_0_0, RM1 G R, lit, litN, nI10, if_false, if_true, fm, obs]
    by_cases c1 : k = 1
    · subst c1
      have fx := free5_C G.1.1 S D G.2.1
      have fm := freeI_M G.1.1 R0 G.2.2.2.2.2.1.1
      rw [XDe hd] at fx
      rw [e0] at fm
      refine fin (nI (nfi V)) ?_ ?_
      · simp only [fXX0_many_0, fXX0_many_0_0, m1, lit, litN, nI10, if_false, if_true, fx, obs]
      · simp only [fMX12_many_0, fMX12_many_0_0, RM1 G R, lit, litN, nI10, if_false, if_true, fm, obs]
    by_cases c2 : k = 2
    · subst c2
      have fx := groups_X G.1.1 S d
      rw [XDe hd] at fx
      refine fin (nI (vQ V)) ?_ ?_
      · simp (disch := omega) only [fXX0_many_0, fXX0_many_0_0, m1, lit, litN, nI_eqI, if_neg, if_true, fx, obs]
      · simp (disch := omega) only [fMX12_many_0, fMX12_many_0_0, RM1 G R, R.1.2.2.2.2.1, lit, litN, nI_eqI, if_neg, if_true]
    by_cases c3 : k = 3
    · subst c3
      have fx := gInodes_X G.1.1 S d
      rw [XDe hd] at fx
      refine fin (nI (vG V)) ?_ ?_
      · simp (disch := omega) only [fXX0_many_0, fXX0_many_0_0, m1, lit, litN, nI_eqI, if_neg, if_true, fx, obs]
      · simp (disch := omega) only [fMX12_many_0, fMX12_many_0_0, RM1 G R, R.1.2.2.1, lit, litN, nI_eqI, if_neg, if_true]
    · refine fin (-nI 1) ?_ ?_
      · simp (disch := omega) only [fXX0_many_0, fXX0_many_0_0, m1, lit, litN, nI_ne, if_neg]
      · simp (disch := omega) only [fMX12_many_0, fMX12_many_0_0, RM1 G R, lit, litN, nI_ne, if_neg]
set_option maxRecDepth 4096 in
theorem VolR_here {nb : Nat} {V : VV} {σ τ : XS} {d f : Nat → Nat} {h i : Nat} (H : VolR nb V σ τ d f h) (hi : vkd V i = 2) : VolR nb V (stS σ 1 (nI i)) (stS τ 9 (nI i)) d f i := by
  obtain ⟨G, hd, D, S, m1, h1, hkd, hf, R, h9, sh⟩ := H
  exact ⟨G, hd, D, S, m1, rfl, hi, hf, RM_S (by omega) R, rfl, sh⟩
set_option maxRecDepth 4096 in
theorem INV_here {nb : Nat} {V : VV} {σ τ : XS} {d f : Nat → Nat} {h i : Nat} (I : INV nb σ τ) (H : VolR nb V σ τ d f h) (hi : vkd V i = 2) : INV nb (stS σ 1 (nI i)) (stS τ 9 (nI i)) := by
  obtain ⟨g, hg⟩ := I.2.1
  obtain ⟨w, r, t, t1, t2, t3, t4, t5, t6, t7⟩ := I.1
  exact ⟨⟨w, r, t, t1, t2, t3, t4, t5, t6, t7⟩, ⟨g, hg⟩, .inr ⟨V, d, f, i, VolR_here H hi⟩⟩
set_option maxRecDepth 4096 in
theorem p_up (nb : Nat) (h5 : nb ≤ 512) : St_up nb (INV nb) := by
  intro σ τ I
  rcases I.2.2 with ⟨h0, h2, hd, f, hf⟩ | ⟨V, d, f, h, H⟩
  · refine ⟨(1, nI 0, σ), (nI 0, stS τ 0 (nI 1)), ?_, ?_, nmR I h0 h2 hd hf _, .inr ⟨rfl, stS_e _ _ _⟩⟩
    · simp only [fXX0_up_0_0, fXX0_up_0, fXX0_needVolume_0, fXX0_needVolume_0_0, h0, lit, litN, if_true, obs, show ¬ (1 : Nat) = 0 by omega, if_false]
    · have nn := none_M0 nb h2
      rw [stS_S] at nn
      simp only [fMX12_up_0, fMX12_up_0_0, nn, obs, lit, litN, nI10, if_false]
  · have H0 := H
    obtain ⟨G, hd, D, S, m1, h1, hkd, hf, R, h9, sh⟩ := H
    obtain ⟨hl, DI, D2, hL⟩ := dirF G hkd
    have hin := G.ino hl
    have nn := none_M1 nb (RM1 G R)
    have e0 : XD (stS τ 0 (nI 0)) f = stS τ 0 (nI 0) := by rw [← XD_S, XDe hf]
    have s9 : (stS τ 0 (nI 0)).1 9 = nI h := h9
    by_cases c : h = 2
    · subst c
      refine ⟨(0, nI 0, σ), (nI 0, stS τ 0 (nI 0)), ?_, ?_, ?_, .inl ⟨rfl, stS_e _ _ _, rfl, .inl rfl⟩⟩
      · simp (disch := omega) only [fXX0_up_0_0, fXX0_up_0, fXX0_needVolume_0, fXX0_needVolume_0_0, m1, h1, lit, litN, nI10, if_false, obs, if_true]
      · simp (disch := omega) only [fMX12_up_0, fMX12_up_0_0, nn, obs, lit, litN, if_true, s9]
      · have := INV_ro I H0 (keepX_rfl σ) (keepT_S τ (m := 0) (nI 0) (by omega))
        rw [XDe hd, e0] at this; exact this
    · obtain ⟨ρ, k1, k2, k3⟩ := read_X G.1 hin.1 hin.2.1 hl (G.2.2.2.1 h hl).1 DI.1 D2.2.1 σ d S D
      rw [XDe hd] at k3
      obtain ⟨pk, _, _⟩ := G.2.2.2.2.2.2.2.1 h hl c
      have hpl : (fl V h)[1]? = some (1024 * vbl V h 0 + 12) := by
        obtain ⟨r, hr⟩ := DI.2.1
        have h1' := DI.1.1
        obtain ⟨M, hM⟩ : ∃ M, vmn V h = M + 1 := ⟨vmn V h - 1, by omega⟩
        have hflt : fl V h = ves V h 0 ++ flt (ves V h) 1 M := by unfold fl; rw [hM]; rfl
        rw [hflt, hr]; rfl
      have io := inodeOf_X h5 D k2 hL hpl
      rw [DI.2.2.1.2.1] at io
      have hp2 := (G.ino (show live V (vpar V h) from .inr pk)).2.2
      have y15 : (stS τ 0 (nI 0)).2.1 15 h = nI (vpar V h) := R.2.2.2.2.1 h hin.2.2 hl
      have r1 : (XD ρ d).1 1 = nI h := (k1.1 1 (by omega)).trans h1
      refine ⟨(0, nI 1, stS (XD ρ d) 1 (nI (vpar V h))), (nI 1, stS (stS τ 0 (nI 0)) 9 (nI (vpar V h))), ?_, ?_, ?_, .inl ⟨rfl, stS_e τ 0 (nI 0), rfl, .inr rfl⟩⟩
      · simp (disch := omega) only [fXX0_up_0_0, fXX0_up_0, fXX5_parent_7_0, fXX5_parent_7, fXX0_needVolume_0, fXX0_needVolume_0_0, m1, h1, lit, litN, nI10, if_false, obs, if_true, nI_eqI, if_neg, k3, io, r1]
      · simp (disch := omega) only [fMX12_up_0, fMX12_up_0_0, nn, obs, lit, litN, if_true, s9, nI_eqI, if_neg, nI_ltI', nI_leI', nI_eqI, nI_clampI, n_or, y15]
      · have := INV_ro I H0 k1 (keepT_S τ (m := 0) (nI 0) (by omega))
        rw [e0] at this
        have H1 := VolR_ro H0 k1 (keepT_S τ (m := 0) (nI 0) (by omega))
        rw [e0] at H1
        exact INV_here this H1 pk
set_option maxRecDepth 4096 in
theorem p_enter (nb : Nat) (h5 : nb ≤ 512) : St_enter nb (INV nb) := by
  intro σ τ x0 I
  obtain ⟨k, hk, rfl⟩ := nI_all x0
  rcases I.2.2 with ⟨h0, h2, hd, f, hf⟩ | ⟨V, d, f, h, H⟩
  · refine ⟨(1, nI 0, σ), (nI 0, stS τ 0 (nI 1)), ?_, ?_, nmR I h0 h2 hd hf _, .inr (.inl ⟨rfl, stS_e _ _ _⟩)⟩
    · simp only [fXX0_enter_0_0, fXX0_enter_0, itemHere_X0 h0, obs, show ¬ (1 : Nat) = 0 by omega, if_false, lit, litN]
    · simp only [fMX12_enter_0, fMX12_enter_0_0, no_M0 h2, obs, lit, litN, nI10, if_false]
  · have H0 := H
    obtain ⟨G, hd, D, S, m1, h1, hkd, hf, R, h9, sh⟩ := H
    have hg := G_lt G.1.1
    rcases itemHere_X H0 hk with ⟨q, a, ρ, k1, k2, k3, k4, k5, k6⟩ | ⟨k5, ρ, k1, k6⟩
    · rcases no_M H0 hk with ⟨a', be, n1, n2, n3⟩ | ⟨n1, _⟩
      · obtain rfl : a = a' := by rw [k5] at n1; injection n1
        obtain ⟨E, a1, a2, a3, a4, a5, a6⟩ := itmF G hkd k5
        obtain ⟨hl, DI, D2, hL⟩ := dirF G hkd
        have io := inodeOf_X h5 D k2 hL k4
        have S1 := Sc_keep k1 S
        have s10 : ∀ ρ' : XS, (XD (fnd ρ' (nI a) be (nI k)) f).1 10 = nI a := fun _ => rfl
        have fo := four_F h5 R a1
        obtain ⟨i, hi⟩ : ∃ i, rd4 (vdat V) a = i := ⟨_, rfl⟩
        rw [hi] at io fo a3 a5
        have li : live V i := by rw [← hi]; exact E.2.2.1
        obtain ⟨in1, in2, in3⟩ := G.ino li
        have rr := R.2.2.1 i in3
        have y6 : (XD (fnd (stS τ 0 (nI 0)) (nI a) be (nI k)) f).2.1 6 i = nI (vkd V i) := by rw [XD_k _ _ _ _ (by omega)]; exact rr.1
        have h4 := G.2.2.2.2.2.1.1 i
        have dd := isDir_X G.1.1 S1 D in1 in2
        have t0 : ∀ v, (XD (fnd (stS τ 0 v) (nI a) be (nI k)) f).1 0 = v := fun v => tF _ _ _ _
        have f0 := fails_0 nb (t0 (nI 0)) (nI 3)
        have f1 := fails_1 nb (t0 (nI 0)) (c := 3) (by omega) (by omega)
        rw [XD_S, fnd_S0, stS_S] at f1
        by_cases ck : vkd V i = 2
        · rw [if_pos ck] at dd
          obtain ⟨hli, DIi, D2i, hLi⟩ := dirF G ck
          have S2 : Sc V (stS ρ 1 (nI i)) := S1
          obtain ⟨π, p1, p2, p3⟩ := read_X G.1 in1 in2 hli (G.2.2.2.1 i hli).1 DIi.1 D2i.2.1 (stS ρ 1 (nI i)) d S2 D
          have ic := itemCount_X h5 D p2 hLi (fl_2 D2i)
          have Rf : RM nb V (stS (fnd (stS τ 0 (nI 0)) (nI a) be (nI k)) 9 (nI i)) f := RM_S (by omega) (RM_fnd (RM_S (by omega) R))
          obtain ⟨fo2, be2, se2, cm⟩ := count_M G.1 Rf in3 hli D2i
          refine ⟨(0, nI (itm (vdat V) (fl V i)).length, XD π d), (nI (itm (vdat V) (fl V i)).length, XD (fnd (stS (fnd (stS τ 0 (nI 0)) (nI a) be (nI k)) 9 (nI i)) fo2 be2 se2) f), ?_, ?_, ?_, .inl ⟨rfl, ?_, rfl⟩⟩
          · have e1 : (XD (stS ρ 1 (nI i)) d).1 1 = nI i := rfl
            simp (disch := omega) only [fXX0_enter_0_0, fXX0_enter_0, k6, obs, if_true, io, lit, litN, dd, nI10, if_false, XD_S, e1, p3, ic]
          · simp (disch := omega) only [fMX12_enter_0, fMX12_enter_0_0, fMX12_enter_0_31, n3, obs, lit, litN, if_true, s10, fo, nI_ltI', nI_leI', nI_eqI, nI_clampI, n_or, if_neg, y6, ck, f0, XD_S, cm]
          · have I1 := INV_ro I H0 k1 (kF (τ := τ) (nI a) be (nI k) (nI 0))
            have H1 := VolR_ro H0 k1 (kF (τ := τ) (nI a) be (nI k) (nI 0))
            have I2 := INV_here I1 H1 ck
            have H2 := VolR_here H1 ck
            have I3 := INV_ro (ρ := XD π d) (τ' := XD (fnd (stS (fnd (stS τ 0 (nI 0)) (nI a) be (nI k)) 9 (nI i)) fo2 be2 se2) f) I2 H2 ?_ ?_
            · rw [XD_XD, XD_XD] at I3; exact I3
            · refine ⟨fun k hk => ?_, fun k hk => ?_, ?_⟩
              · exact p1.1 k hk
              · by_cases c : k = 0
                · subst c; rfl
                · rw [XD_o _ _ c]
                  show π.2.1 k = (XD ρ d).2.1 k
                  rw [XD_o _ _ c]; exact p1.2.1 k hk
              · exact p1.2.2
            · refine ⟨fun j h1 h2 h3 h4 h5 => ?_, fun j hk => rfl, rfl⟩
              show (fnd (stS (fnd (stS τ 0 (nI 0)) (nI a) be (nI k)) 9 (nI i)) fo2 be2 se2).1 j = _
              rw [fnd_k _ _ _ _ h2 h3 h5]; rfl
          · exact stS_e τ 0 (nI 0)
        · rw [if_neg ck] at dd
          refine ⟨(3, nI 0, XD ρ d), (nI 0, XD (fnd (stS τ 0 (nI 3)) (nI a) be (nI k)) f), ?_, ?_, INV_ro I H0 k1 (kF _ _ _ _), .inr (.inr (.inr ⟨rfl, tF _ _ _ _⟩))⟩
          · simp (disch := omega) only [fXX0_enter_0_0, fXX0_enter_0, k6, obs, if_true, io, lit, litN, dd]
          · simp (disch := omega) only [fMX12_enter_0, fMX12_enter_0_0, fMX12_enter_0_31, n3, obs, lit, litN, if_true, s10, fo, nI_ltI', nI_leI', nI_eqI, nI_clampI, n_or, if_neg, y6, f1]
      · rw [k5] at n1; cases n1
    · rcases no_M H0 hk with ⟨a', be, n1, n2, n3⟩ | ⟨n1, fo, be, se, n3⟩
      · rw [k5] at n1; cases n1
      · refine ⟨(2, nI 0, XD ρ d), (nI 0, XD (fnd (stS τ 0 (nI 2)) fo be se) f), ?_, ?_, INV_ro I H0 k1 (kF _ _ _ _), .inr (.inr (.inl ⟨rfl, tF _ _ _ _⟩))⟩
        · simp only [fXX0_enter_0_0, fXX0_enter_0, k6, obs, show ¬ (2 : Nat) = 0 by omega, if_false, lit, litN]
        · simp only [fMX12_enter_0, fMX12_enter_0_0, n3, obs, lit, litN, nI10, if_false]
