set_option maxRecDepth 4096 in
theorem ndc_ge {nb : Nat} {V : VV} (B : Bas nb V) {i : Nat} (h1 : 1 ≤ i) (h2 : i ≤ vQ V * vG V) (h3 : vkd V i = 2) : 1 ≤ ndcg V ((i - 1) / vG V) := by
  obtain ⟨_, _, _, c4, _⟩ := nfi_chg (W := setA V 3 i 1) B rfl h1 h2 (fun c hc => setA_n _ _ _ hc)
  have hp : pdc V i = 1 := by unfold pdc; rw [if_pos h3]
  have hp2 : pdc (setA V 3 i 1) i = 0 := by unfold pdc; rw [show vkd (setA V 3 i 1) i = 1 from setA_e _ _ _ _, if_neg (by omega)]
  omega
set_option maxRecDepth 4096 in
theorem rem_Mf {nb k a i kd : Nat} {be : Int32} {τ s1 : XS} (n3 : fMX12_no_0 nb (nI k) τ = some (nI 0, s1)) (s10 : s1.1 10 = nI a) (s11 : s1.1 11 = be) (fo : fMX12_four_0 nb (nI a) s1 = some (nI i, s1)) (hi : i < 2100) (y6 : s1.2.1 6 i = nI kd) (hk : kd ≠ 2) (hk4 : kd < 4) (f0 : fMX12_fails_0 nb (nI 0) (nI 3) s1 = some (nI 0, s1)) : fMX12_remove_0 nb (nI k) τ = fMX12_remove_0_84 nb (nI a) be (nI i) s1 := by
  simp (disch := omega) only [fMX12_remove_0, fMX12_remove_0_0, fMX12_remove_0_51, fMX12_remove_0_52, n3, obs, lit, litN, if_true, s10, s11, fo, nI_ltI', nI_leI', nI_eqI, nI_clampI, n_or, if_neg, y6, f0]
set_option maxRecDepth 4096 in
theorem rem_Mn {nb k a i c : Nat} {be : Int32} {τ s1 s2 s3 : XS} (n3 : fMX12_no_0 nb (nI k) τ = some (nI 0, s1)) (s10 : s1.1 10 = nI a) (s11 : s1.1 11 = be) (fo : fMX12_four_0 nb (nI a) s1 = some (nI i, s1)) (hi : i < 2100) (y6 : s1.2.1 6 i = nI 2) (cm : fMX12_count_0 nb (nI i) s1 = some (nI c, s2)) (hc : 0 < c) (hc2 : c < 10000) (f1 : fMX12_fails_0 nb (nI 1) (nI 3) s2 = some (nI 1, s3)) : fMX12_remove_0 nb (nI k) τ = some s3 := by
  simp (disch := omega) only [fMX12_remove_0, fMX12_remove_0_0, fMX12_remove_0_51, fMX12_remove_0_52, n3, obs, lit, litN, if_true, s10, s11, fo, nI_ltI', nI_leI', nI_eqI, nI_clampI, n_or, if_neg, y6, cm, f1]
set_option maxRecDepth 4096 in
theorem rem_Md {nb k a i h lk : Nat} {be : Int32} {τ s1 s2 : XS} (n3 : fMX12_no_0 nb (nI k) τ = some (nI 0, s1)) (s10 : s1.1 10 = nI a) (s11 : s1.1 11 = be) (fo : fMX12_four_0 nb (nI a) s1 = some (nI i, s1)) (hi : i < 2100) (y6 : s1.2.1 6 i = nI 2) (cm : fMX12_count_0 nb (nI i) s1 = some (nI 0, s2)) (f0 : fMX12_fails_0 nb (nI 0) (nI 3) s2 = some (nI 0, s2)) (z6 : s2.2.1 6 i = nI 2) (y9 : s2.1 9 = nI h) (hh : h < 2100) (y8 : s2.2.1 8 h = nI lk) (hlk : 1 ≤ lk) : fMX12_remove_0 nb (nI k) τ = fMX12_remove_0_84 nb (nI a) be (nI i) (stA s2 8 h (nI (lk - 1))) := by
  simp (disch := omega) only [fMX12_remove_0, fMX12_remove_0_0, fMX12_remove_0_51, fMX12_remove_0_52, n3, obs, lit, litN, if_true, s10, s11, fo, nI_ltI', nI_leI', nI_eqI, nI_clampI, n_or, if_neg, if_pos, y6, cm, f0, z6, y9, y8, nI_sub]
set_option maxRecDepth 4096 in
theorem rem_Xd {nb k q i h c : Nat} {σ s1 s2 s3 s4 s5 : XS} (k6 : fXX0_itemHere_0 nb (nI k) σ = some (0, nI q, s1)) (io : fXX5_inodeOf_7 nb (nI q) s1 = some (nI i, s1)) (dd : fXX4_isDirectory_6 nb (nI i) s1 = some (nI 1, s1)) (p3 : fXX5_read_7 nb (nI i) s1 = some s2) (ic : fXX5_itemCount_7 nb s2 = some (nI c, s2)) (hc : c < 10000) :
    (c = 0 → s2.1 1 = nI h → fXX5_read_7 nb (nI h) s2 = some s3 → s3.1 1 = nI h → fXX4_addLinks_6 nb (nI h) (-nI 1) s3 = some s4 → fXX4_countDirectories_6 nb (nI i) (-nI 1) s4 = some s5 → fXX0_remove_0 nb (nI k) σ = fXX0_remove_0_91 nb (nI q) (nI i) s5) ∧ (c ≠ 0 → fXX0_remove_0 nb (nI k) σ = some (3, s2)) := by
  constructor
  · intro h0 r21 q3 r31 al cd
    subst h0
    simp (disch := omega) only [fXX0_remove_0, fXX0_remove_0_0, k6, obs, if_true, io, lit, litN, dd, nI_ltI', nI_leI', nI_eqI, nI_clampI, if_neg, if_pos, p3, ic, r21, q3, r31, al, cd]
  · intro h0
    simp (disch := omega) only [fXX0_remove_0, fXX0_remove_0_0, k6, obs, if_true, io, lit, litN, dd, nI_ltI', nI_leI', nI_eqI, nI_clampI, if_neg, p3, ic]
set_option maxRecDepth 4096 in
theorem rem_Xf {nb k q i : Nat} {σ s1 : XS} (k6 : fXX0_itemHere_0 nb (nI k) σ = some (0, nI q, s1)) (io : fXX5_inodeOf_7 nb (nI q) s1 = some (nI i, s1)) (dd : fXX4_isDirectory_6 nb (nI i) s1 = some (nI 0, s1)) : fXX0_remove_0 nb (nI k) σ = fXX0_remove_0_91 nb (nI q) (nI i) s1 := by
  simp only [fXX0_remove_0, fXX0_remove_0_0, k6, obs, if_true, io, lit, litN, dd]
set_option maxRecDepth 4096 in
theorem p_remove (nb : Nat) (h5 : nb ≤ 512) : St_remove nb (INV nb) := by
  intro σ τ x0 I
  obtain ⟨k, hk, rfl⟩ := nI_all x0
  rcases I.2.2 with ⟨h0, h2, hd, f, hf⟩ | ⟨V, d, f, h, H⟩
  · have ih := itemHere_X0 (nb := nb) h0 (nI k)
    have nn := no_M0 (nb := nb) h2 (nI k)
    refine ⟨(1, σ), stS τ 0 (nI 1), ?_, ?_, nmR I h0 h2 hd hf _, .inr (.inl ⟨rfl, stS_e _ _ _⟩)⟩
    · simp only [fXX0_remove_0, fXX0_remove_0_0, obs, ih, show ¬ (1 : Nat) = 0 by omega, if_false]
    · simp only [fMX12_remove_0, fMX12_remove_0_0, nn, obs, lit, litN, nI10, if_false]
  · have H0 := H
    obtain ⟨G, hd, D, S, m1, h1, hkd, hf, R, h9, sh⟩ := H
    have hgl := G_lt G.1.1
    rcases itemHere_X H0 hk with ⟨q, a, ρ, k1, k2, k3, k4, k5, k6⟩ | ⟨k5, ρ, k1, k6⟩
    · rcases no_M H0 hk with ⟨a', be, n1, n2, n3⟩ | ⟨n1, _⟩
      · obtain rfl : a = a' := by rw [k5] at n1; injection n1
        obtain ⟨E, a1, a2, a3, a4, a5, a6⟩ := itmF G hkd k5
        obtain ⟨hl, DI, D2, hL⟩ := dirF G hkd
        have hin := G.ino hl
        have S1 := Sc_keep k1 S
        have io := inodeOf_X h5 D k2 hL k4
        have s10 : ∀ ρ' : XS, (XD (fnd ρ' (nI a) be (nI k)) f).1 10 = nI a := fun _ => rfl
        have s11 : ∀ ρ' : XS, (XD (fnd ρ' (nI a) be (nI k)) f).1 11 = be := fun _ => rfl
        have fo := four_F h5 R a1
        obtain ⟨i, hi⟩ : ∃ i, rd4 (vdat V) a = i := ⟨_, rfl⟩
        have li : live V i := by rw [← hi]; exact E.2.2.1
        rw [hi] at io fo
        obtain ⟨in1, in2, in3⟩ := G.ino li
        have dd := isDir_X G.1.1 S1 D in1 in2
        have h4 := G.2.2.2.2.2.1.1 i
        have R1 : RM nb V (fnd (stS τ 0 (nI 0)) (nI a) be (nI k)) f := RM_fnd (RM_S (by omega) R)
        have y6 : ∀ ρ' : XS, ρ'.2 = τ.2 → (XD ρ' f).2.1 6 i = nI (vkd V i) := fun ρ' e => by rw [XD_k _ _ _ _ (by omega), e]; exact (R.2.2.1 i in3).1
        have y6' := y6 (fnd (stS τ 0 (nI 0)) (nI a) be (nI k)) rfl
        by_cases ck : vkd V i = 2
        · -- a directory
          rw [if_pos ck] at dd
          obtain ⟨hli, DIi, D2i, hLi⟩ := dirF G ck
          obtain ⟨ρ2, p1, p2, p3⟩ := read_X G.1 in1 in2 hli (G.2.2.2.1 i hli).1 DIi.1 D2i.2.1 ρ d S1 D
          have ic := itemCount_X h5 D p2 hLi (fl_2 D2i)
          obtain ⟨fo2, be2, se2, cm⟩ := count_M G.1 R1 in3 hli D2i
          rw [fnd_f] at cm
          have hle := itm_len (f := vdat V) D2i.2.1
          have t0 : ∀ v, (XD (fnd (stS τ 0 v) fo2 be2 se2) f).1 0 = v := fun v => tF _ _ _ _
          have f0 := fails_0 nb (t0 (nI 0)) (nI 3)
          have f1 := fails_1 nb (t0 (nI 0)) (c := 3) (by omega) (by omega)
          rw [XD_S, fnd_S0, stS_S] at f1
          by_cases c0 : (itm (vdat V) (fl V i)).length = 0
          · have hemp : itm (vdat V) (fl V i) = [] := List.eq_nil_of_length_eq_zero c0
            have S2 := Sc_keep p1 S1
            obtain ⟨ρ3, q1, q2, q3⟩ := read_X G.1 hin.1 hin.2.1 hl (G.2.2.2.1 h hl).1 DI.1 D2.2.1 ρ2 d S2 D
            have S3 := Sc_keep q1 S2
            have r21 : (XD ρ2 d).1 1 = nI h := (p1.1 1 (by omega)).trans ((k1.1 1 (by omega)).trans h1)
            have r31 : (XD ρ3 d).1 1 = nI h := (q1.1 1 (by omega)).trans r21
            have hlk2 := DI.2.2.2.2.2
            have hlkb : vlk V h < 65536 := by
              have hle' := itm_len (f := vdat V) D2.2.1
              have := List.length_filter_le (isD V) (itm (vdat V) (fl V h)); omega
            obtain ⟨d1, D1, al⟩ := addLinks_X G.1.1 S3 D hin.1 hin.2.1 hl (v := vlk V h - 1) (δ := -nI 1) hlkb (nI_m1 (by omega))
            have hge := ndc_ge G.1.1 in1 in2 ck
            have hnl := (nfb_lt G.1.1).2.2.2.2 ((i - 1) / vG V)
            have hx := (G.1.1.1.ino in1 in2).1
            obtain ⟨d2, D2', cd⟩ := countD_X (V := setA V 5 h (vlk V h - 1)) G.1.1 S3 D1 in1 in2 (f := ndcg V ((i - 1) / vG V)) (w := ndcg V ((i - 1) / vG V) - 1) (δ := -nI 1) (fun y hy => G.2.2.1 y hy _ hx) (by omega) (nI_m1 hge)
            have lkV : ∀ j, vlk (cnD (setA V 5 h (vlk V h - 1)) ((i - 1) / vG V) (ndcg V ((i - 1) / vG V) - 1) (vQ V)) j = if j = h then vlk V h - 1 else vlk V j := fun j => by
              show (cnD _ _ _ _).2.1 5 j = _
              rw [cnD_a]
              by_cases c : j = h
              · rw [if_pos c, c, setA_e]
              · rw [if_neg c, setA_n _ _ _ c]
            have R2 : RM nb (cnD (setA V 5 h (vlk V h - 1)) ((i - 1) / vG V) (ndcg V ((i - 1) / vG V) - 1) (vQ V)) (stA (fnd (stS τ 0 (nI 0)) fo2 be2 se2) 8 h (nI (vlk V h - 1))) f := by
              have := RM_lk (RM_fnd (a := fo2) (b := be2) (c := se2) (RM_S (m := 0) (v := nI 0) (by omega) R)) h (vlk V h - 1)
              exact RM_V this (cnD_s _ _ _ _) (by show (cnD _ _ _ _).2.1 0 = _; rw [cnD_a]) (by show (cnD _ _ _ _).2.1 3 = _; rw [cnD_a]) (by show (cnD _ _ _ _).2.1 4 = _; rw [cnD_a]) (by show (cnD _ _ _ _).2.1 5 = _; rw [cnD_a]) (by show (cnD _ _ _ _).2.1 6 = _; rw [cnD_a]) (by show (cnD _ _ _ _).2.1 7 = _; rw [cnD_a]) (by show (cnD _ _ _ _).2.1 9 = _; rw [cnD_a]) (by show (cnD _ _ _ _).2.1 10 = _; rw [cnD_a]) (cnD_t _ _ _ _ (by omega)) (cnD_t _ _ _ _ (by omega)) (by show (cnD _ _ _ _).2.1 11 = _; rw [cnD_a]) (by show (cnD _ _ _ _).2.1 16 = _; rw [cnD_a]) (by show (cnD _ _ _ _).2.1 15 = _; rw [cnD_a])
            obtain ⟨V5, d', τ', f', G5, e5, h5k, D5, c5, R5, u1, u2, u3⟩ := rem_core h5 (V0 := cnD (setA V 5 h (vlk V h - 1)) ((i - 1) / vG V) (ndcg V ((i - 1) / vG V) - 1) (vQ V)) G hkd k4 k3 k5 hi (fun _ => hemp) n2 (cnD_s _ _ _ _) (fun k hk => by rw [cnD_a]; exact setA_o _ _ _ hk) (fun j hj => by rw [lkV, if_neg hj]) (by rw [lkV, if_pos rfl, if_pos ck]; omega) (fun k hk => cnD_t _ _ _ _ hk) (fun y x hy hx' => by
              rw [cnD_d]
              by_cases c : x = (i - 1) / vG V
              · have g3 := G.2.2.1 y hy x hx'
                rw [if_pos ⟨hy, c⟩, if_pos ⟨ck, c⟩, g3, c]; omega
              · rw [if_neg (fun e => c e.2), if_neg (fun e => c e.2)]; rfl) (cnD_l _ _ _ _) S3 q2 D2' R2
            refine ⟨(0, XD ρ3 d'), XD τ' f', ?_, ?_, ?_, .inl ⟨rfl, ?_⟩⟩
            · rw [(rem_Xd k6 io dd p3 ic (by omega)).1 c0 r21 q3 r31 al cd]; exact c5
            · have y8 : (XD (fnd (stS τ 0 (nI 0)) fo2 be2 se2) f).2.1 8 h = nI (vlk V h) := by rw [XD_k _ _ _ _ (by omega)]; exact (R.2.2.1 h hin.2.2).2.2.1
              have y9 : (XD (fnd (stS τ 0 (nI 0)) fo2 be2 se2) f).1 9 = nI h := h9
              have y62 := y6 (fnd (stS τ 0 (nI 0)) fo2 be2 se2) rfl
              rw [c0] at cm
              rw [ck] at y6' y62
              rw [rem_Md n3 rfl rfl (fo _) in3 y6' cm f0 y62 y9 hin.2.2 y8 (by omega), XD_A _ _ _ _ (by omega)]
              exact u3
            · exact INV_wr I H0 (keepX_trans k1 (keepX_trans p1 q1)) G5 D5 e5 h5k R5 (fun j hj => by
                rw [u1, stS_k _ _ _ (by omega)]
                show (fnd (stS τ 0 (nI 0)) fo2 be2 se2).1 j = _
                rw [fnd_k _ _ _ _ (by omega) (by omega) (by omega), stS_k _ _ _ (by omega)]) (by rw [u1]; exact stS_e _ 3 _) (fun j hj => by
                rw [u2 j hj, stA_k _ _ _ _ (by omega)]; rfl)
            · show τ'.1 0 = nI 0
              rw [u1, stS_k _ _ _ (by omega)]; exact stS_e τ 0 (nI 0)
          · refine ⟨(3, XD ρ2 d), XD (fnd (stS τ 0 (nI 3)) fo2 be2 se2) f, ?_, ?_, INV_ro I H0 (keepX_trans k1 p1) (kF _ _ _ _), .inr (.inr (.inr ⟨rfl, tF _ _ _ _⟩))⟩
            · exact (rem_Xd (h := h) (s3 := σ) (s4 := σ) (s5 := σ) k6 io dd p3 ic (by omega)).2 c0
            · rw [ck] at y6'
              exact rem_Mn n3 rfl rfl (fo _) in3 y6' cm (by omega) (by omega) f1
        · -- a file
          rw [if_neg ck] at dd
          have t0 : ∀ v, (XD (fnd (stS τ 0 v) (nI a) be (nI k)) f).1 0 = v := fun v => tF _ _ _ _
          have f0 := fails_0 nb (t0 (nI 0)) (nI 3)
          obtain ⟨V5, d', τ', f', G5, e5, h5k, D5, c5, R5, u1, u2, u3⟩ := rem_core h5 (V0 := V) G hkd k4 k3 k5 hi (fun e => absurd e ck) n2 rfl (fun _ _ => rfl) (fun _ _ => rfl) (by rw [if_neg ck]; rfl) (fun _ _ => rfl) (fun y x _ _ => by rw [if_neg (fun e => ck e.1)]; rfl) rfl S1 k2 D R1
          refine ⟨(0, XD ρ d'), XD τ' f', ?_, ?_, ?_, .inl ⟨rfl, ?_⟩⟩
          · rw [rem_Xf k6 io dd]; exact c5
          · rw [rem_Mf n3 rfl rfl (fo _) in3 y6' ck h4 f0]
            exact u3
          · exact INV_wr I H0 k1 G5 D5 e5 h5k R5 (fun j hj => by
              rw [u1, stS_k _ _ _ (by omega), fnd_k _ _ _ _ (by omega) (by omega) (by omega), stS_k _ _ _ (by omega)]) (by rw [u1]; exact stS_e _ 3 _) (fun j hj => by
              rw [u2 j hj]; rfl)
          · show τ'.1 0 = nI 0
            rw [u1, stS_k _ _ _ (by omega)]; exact stS_e τ 0 (nI 0)
      · rw [k5] at n1; cases n1
    · rcases no_M H0 hk with ⟨a', be, n1, n2, n3⟩ | ⟨n1, fo, be, se, n3⟩
      · rw [k5] at n1; cases n1
      · refine ⟨(2, XD ρ d), XD (fnd (stS τ 0 (nI 2)) fo be se) f, ?_, ?_, INV_ro I H0 k1 (kF _ _ _ _), .inr (.inr (.inl ⟨rfl, tF _ _ _ _⟩))⟩
        · simp only [fXX0_remove_0, fXX0_remove_0_0, obs, k6, show ¬ (2 : Nat) = 0 by omega, if_false]
        · simp only [fMX12_remove_0, fMX12_remove_0_0, n3, obs, lit, litN, nI10, if_false]
