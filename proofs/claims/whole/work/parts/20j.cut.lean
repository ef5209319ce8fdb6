set_option maxRecDepth 4096 in
theorem p_cut (nb : Nat) (h5 : nb ≤ 512) : St_cut nb (INV nb) := by
  intro σ τ x0 x1 I
  obtain ⟨k, hk, rfl⟩ := nI_all x0
  obtain ⟨c, hc, rfl⟩ := nI_all x1
  have gM : ∃ g, (g = 0 ∧ c < 2147483648 ∨ g = 1 ∧ ¬ c < 2147483648) ∧ fMX12_cut_0 nb (nI k) (nI c) τ = fMX12_cut_0_11 nb (nI c) (nI g) (nI k) τ := by
    by_cases z : c < 2147483648
    · refine ⟨0, .inl ⟨rfl, z⟩, ?_⟩
      simp (disch := omega) only [fMX12_cut_0, fMX12_cut_0_0, lit, litN, nI_ltI', nI_leI', nI_eqI, nI_clampI, if_pos]
    · refine ⟨1, .inr ⟨rfl, z⟩, ?_⟩
      have hneg := nI_neg (by omega) hc
      have hle : ¬ nI 0 ≤ nI c := fun e => Int32.lt_irrefl (Int32.lt_of_lt_of_le hneg e)
      simp only [fMX12_cut_0, fMX12_cut_0_0, lit, litN]
      rw [if_neg hle]
  obtain ⟨g, hg, gM⟩ := gM
  have hg01 : g = 0 ∨ g = 1 := by omega
  rcases I.2.2 with ⟨h0, h2, hd, f, hf⟩ | ⟨V, d, f, h, H⟩
  · have ih := itemHere_X0 (nb := nb) h0 (nI k)
    have nf := noFile_N (no_M0 (nb := nb) h2 (nI k)) (nI g)
    refine ⟨(1, nI 0, σ), (nI 0, stS τ 0 (nI 1)), ?_, ?_, nmR I h0 h2 hd hf _, .inr (.inl ⟨rfl, stS_e _ _ _⟩)⟩
    · simp only [fXX0_cut_0, fXX0_cut_0_0, obs, ih, show ¬ (1 : Nat) = 0 by omega, if_false, lit, litN]
    · rw [gM]; simp only [fMX12_cut_0_11, nf, obs, lit, litN, nI10, if_false]
  · have H0 := H
    obtain ⟨G, hd, D, S, m1, h1, hkd, hf, R, h9, sh⟩ := H
    have hgl := G_lt G.1.1
    rcases itemHere_X H0 hk with ⟨q, a, ρ, k1, k2, k3, k4, k5, k6⟩ | ⟨k5, ρ, k1, k6⟩
    · rcases no_M H0 hk with ⟨a', be, n1, n2, n3⟩ | ⟨n1, _⟩
      · obtain rfl : a = a' := by rw [k5] at n1; injection n1
        obtain ⟨E, a1, a2, a3, a4, a5, a6⟩ := itmF G hkd k5
        have S1 := Sc_keep k1 S
        have fa := fileAt_X h5 G D S1 k2 hkd k4 E
        have nf := noFile_M h5 H0 k5 n3 g hg01
        have s10 : ∀ ρ' : XS, (XD (fnd ρ' (nI a) be (nI k)) f).1 10 = nI a := fun _ => rfl
        have fo := four_F h5 R a1
        obtain ⟨i, hi⟩ : ∃ i, rd4 (vdat V) a = i := ⟨_, rfl⟩
        have li : live V i := by rw [← hi]; exact E.2.2.1
        rw [hi] at fa nf fo
        obtain ⟨in1, in2, in3⟩ := G.ino li
        have hsz := G.sz i
        have t0 : ∀ v, (XD (fnd (stS τ 0 v) (nI a) be (nI k)) f).1 0 = v := fun v => tF _ _ _ _
        have f0 := fails_0 nb (t0 (nI 0)) (nI 3)
        have f1 := fails_1 nb (t0 (nI 0)) (c := 3) (by omega) (by omega)
        rw [XD_S, fnd_S0, stS_S] at f1
        have bad : fXX0_cut_0 nb (nI k) (nI c) σ = some (3, nI 0, XD ρ d) → fMX12_cut_0 nb (nI k) (nI c) τ = some (nI 0, XD (fnd (stS τ 0 (nI 3)) (nI a) be (nI k)) f) → ∃ (o1 : (Nat × Int32 × XS)) (o2 : (Int32 × XS)), fXX0_cut_0 nb (nI k) (nI c) σ = some o1 ∧ fMX12_cut_0 nb (nI k) (nI c) τ = some o2 ∧ INV nb o1.2.2 o2.2 ∧ ((o1.1 = 0 ∧ o2.2.1 0 = 0 ∧ o1.2.1 = o2.1) ∨ (o1.1 = 1 ∧ o2.2.1 0 = 1) ∨ (o1.1 = 2 ∧ o2.2.1 0 = 2) ∨ (o1.1 = 3 ∧ o2.2.1 0 = 3)) := fun e1 e2 =>
          ⟨(3, nI 0, XD ρ d), (nI 0, XD (fnd (stS τ 0 (nI 3)) (nI a) be (nI k)) f), e1, e2, INV_ro I H0 k1 (kF _ _ _ _), .inr (.inr (.inr ⟨rfl, tF _ _ _ _⟩))⟩
        by_cases ck : vkd V i = 1
        · rw [if_neg (by omega)] at fa
          have ss := size_X G.1.1 S1 D in1 in2 li (by omega)
          rcases hg with ⟨rfl, c4⟩ | ⟨rfl, c4⟩
          · rw [if_pos ⟨ck, rfl⟩] at nf
            have y7 : (XD (fnd (stS τ 0 (nI 0)) (nI a) be (nI k)) f).2.1 7 i = nI (vsz V i) := by rw [XD_k _ _ _ _ (by omega)]; exact (R.2.2.1 i in3).2.1
            have y9 : (XD (fnd (stS τ 0 (nI 0)) (nI a) be (nI k)) f).2.1 9 i = nI (vmn V i) := by rw [XD_k _ _ _ _ (by omega)]; exact (R.2.2.1 i in3).2.2.2.1
            by_cases cs : c ≤ vsz V i
            · have hz := (G.2.2.2.1 i li).2
              have hp : prt c ≤ vmn V i := by rw [← hz]; unfold prt; omega
              have hmn := mn_lt G.1.1 G.1.2.2 li
              obtain ⟨W, d', T, D', shX⟩ := shorten_X G.1 in1 in2 li (G.2.2.2.1 i li).1 hz hp (by omega) (by omega) ρ d S1 D
              have R1 : RM nb V (fnd (stS τ 0 (nI 0)) (nI a) be (nI k)) f := RM_fnd (RM_S (by omega) R)
              have kp := keep_M G.1 R1 in3 li (G.2.2.2.1 i li).1 hp
              have R2 := RM_keep G.1 R1 in3 li (G.2.2.2.1 i li).1 hp T
              have KM := keepM_kp V (R1.2.2.1 i in3).2.2.2.2.2.2.1 (prt c)
              have R3 := RM_S (m := 3) (v := nI 0) (by omega) (RM_sz R2 i c)
              have a1' := all_M nb (XD (fnd (stS τ 0 (nI 0)) (nI a) be (nI k)) f) (n := vmn V i) (by omega)
              have pt := parts_M nb (XD (fnd (stS τ 0 (nI 0)) (nI a) be (nI k)) f) (x := c) (y := 1024) (by omega) (by omega)
              have hpp : (c + 1024 - 1) / 1024 = prt c := rfl
              rw [hpp] at pt
              obtain ⟨AW, PW, ⟨x1, x2, x3, x4, x5, x6, x7, x8, x9, x10, x11, x12, ⟨x13, x14, x15, x16, x17⟩, x18, x19, x20, x21, x22, x23⟩, _⟩ := T
              have z9 : ∀ ρ' : XS, ρ'.2.1 9 i = nI (prt c) → ∀ g, (XD ρ' g).2.1 9 i = nI (prt c) := fun ρ' e g => by rw [XD_k _ _ _ _ (by omega)]; exact e
              have y9b := z9 (stS (stA (kpA V (fnd (stS τ 0 (nI 0)) (nI a) be (nI k)) i (prt c)) 7 i (nI c)) 3 (nI 0)) (by
                have := (R3.2.2.1 i in3).2.2.2.1
                rw [this]; congr 1) f
              have a2' := all_M nb (XD (stS (stA (kpA V (fnd (stS τ 0 (nI 0)) (nI a) be (nI k)) i (prt c)) 7 i (nI c)) 3 (nI 0)) f) (n := prt c) (by omega)
              have hmo := alln_mono hp
              have GW : Good nb (setA W 4 i c) := by
                refine Good_file (W := setA W 4 i c) G ck AW x1 x2 x4 x5 x8 x9 x6 x10 x11 x12 x7 (fun j hj => ?_) PW ?_ (fun b => ?_) (fun j k hj hk => congrFun (congrFun x16 j) k) (fun j k o lj hj hk ho => congrFun x13 _)
                · obtain ⟨y1, y2, y3, y4, y5⟩ := x18 j hj
                  refine ⟨y1, y2, y3, y4, y5, ?_⟩
                  show (setA W 4 i c).2.1 4 j = _
                  rw [setA_n _ _ _ hj]; exact congrFun x3 j
                · show prt ((setA W 4 i c).2.1 4 i) = vmn W i
                  rw [setA_e, x19]
                · show okt nb (vot W b) b
                  by_cases hb : b < nb
                  · rw [x23 b hb]; split
                    · exact okt_s (by omega) (by omega)
                    · exact G.2.2.2.2.2.2.1 b
                  · rw [AW.1.2.2.2 b (by omega)]; exact okt_o (by omega) hb
              refine ⟨(0, nI (alln (vmn V i) - alln (prt c)), XD ρ d'), (nI (alln (vmn V i) - alln (prt c)), XD (stS (stA (kpA V (fnd (stS τ 0 (nI 0)) (nI a) be (nI k)) i (prt c)) 7 i (nI c)) 3 (nI 0)) f), ?_, ?_, ?_, .inl ⟨rfl, ?_, rfl⟩⟩
              · simp (disch := omega) only [fXX0_cut_0, fXX0_cut_0_0, obs, k6, if_true, fa, lit, litN, nI_ltI', nI_leI', nI_eqI, nI_clampI, if_neg, ss, if_pos, shX]
              · rw [gM]
                simp (disch := omega) only [fMX12_cut_0_11, fMX12_cut_0_40, nf, obs, lit, litN, if_true, s10, fo, nI_ltI', nI_leI', nI_eqI, nI_clampI, n_or, if_neg, y7, if_pos, f0, y9, a1', pt, kp, XD_A, XD_S, y9b, a2', nI_sub]
              · refine INV_wr I H0 k1 GW D' x1 ?_ R3 (fun j hj => ?_) (stS_e _ 3 _) (fun j hj => ?_)
                · show vkd W h = 2; rw [x2]; exact hkd
                · rw [stS_k _ _ _ (by omega)]
                  show (kpA V (fnd (stS τ 0 (nI 0)) (nI a) be (nI k)) i (prt c)).1 j = _
                  rw [KM.1, fnd_k _ _ _ _ (by omega) (by omega) (by omega), stS_k _ _ _ (by omega)]
                · show (stA (kpA V (fnd (stS τ 0 (nI 0)) (nI a) be (nI k)) i (prt c)) 7 i (nI c)).2.1 j = _
                  rw [stA_k _ _ _ _ (by omega), KM.2.1 j (by omega)]; rfl
              · show (stS (stA (kpA V (fnd (stS τ 0 (nI 0)) (nI a) be (nI k)) i (prt c)) 7 i (nI c)) 3 (nI 0)).1 0 = nI 0
                rw [stS_k _ _ _ (by omega)]
                show (kpA V (fnd (stS τ 0 (nI 0)) (nI a) be (nI k)) i (prt c)).1 0 = _
                rw [KM.1]; exact stS_e τ 0 (nI 0)
            · refine bad ?_ ?_
              · simp (disch := omega) only [fXX0_cut_0, fXX0_cut_0_0, fXX0_cut_0_26, obs, k6, if_true, fa, lit, litN, nI_ltI', nI_leI', nI_eqI, nI_clampI, if_neg, ss]
              · rw [gM]
                simp (disch := omega) only [fMX12_cut_0_11, fMX12_cut_0_40, nf, obs, lit, litN, if_true, s10, fo, nI_ltI', nI_leI', nI_eqI, nI_clampI, n_or, if_neg, y7, f1]
          · rw [if_neg (fun e => by omega)] at nf
            refine bad ?_ ?_
            · have hneg := nI_neg (by omega) hc
              simp only [fXX0_cut_0, fXX0_cut_0_0, fXX0_cut_0_26, obs, k6, if_true, fa, lit, litN]
              rw [if_pos hneg]
            · rw [gM]; simp only [fMX12_cut_0_11, nf, obs, lit, litN, nI10, if_false]
        · have ck2 : vkd V i = 2 := by unfold live at li; omega
          rw [if_pos ck2] at fa
          rw [if_neg (fun e => ck e.1)] at nf
          refine bad ?_ ?_
          · simp only [fXX0_cut_0, fXX0_cut_0_0, obs, k6, if_true, fa, show ¬ (3 : Nat) = 0 by omega, if_false, lit, litN]
          · rw [gM]; simp only [fMX12_cut_0_11, nf, obs, lit, litN, nI10, if_false]
      · rw [k5] at n1; cases n1
    · rcases no_M H0 hk with ⟨a', be, n1, n2, n3⟩ | ⟨n1, fo, be, se, n3⟩
      · rw [k5] at n1; cases n1
      · have nf := noFile_N n3 (nI g)
        refine ⟨(2, nI 0, XD ρ d), (nI 0, XD (fnd (stS τ 0 (nI 2)) fo be se) f), ?_, ?_, INV_ro I H0 k1 (kF _ _ _ _), .inr (.inr (.inl ⟨rfl, tF _ _ _ _⟩))⟩
        · simp only [fXX0_cut_0, fXX0_cut_0_0, obs, k6, show ¬ (2 : Nat) = 0 by omega, if_false, lit, litN]
        · rw [gM]; simp only [fMX12_cut_0_11, nf, obs, lit, litN, nI10, if_false]
set_option maxRecDepth 4096 in
theorem Good_tm {nb : Nat} {V : VV} (G : Good nb V) {i w v : Nat} (hl : live V i) (hw : w < 3) (hv : v < 4294967296) : Good nb (setA V 16 (3 * i + w) v) := by
  obtain ⟨g1, g2, g3, g4, g5, g6, g7, g8, g9, g10, g11, g12, g13, g14⟩ := G
  refine ⟨g1, g2, g3, g4, fun j lj => ?_, g6, g7, g8, g9, g10, g11, fun x => ?_, g13, g14⟩
  · have lj' : ¬ live V j := lj
    have hne : j ≠ i := fun e => lj' (by rw [e]; exact hl)
    obtain ⟨y1, y2, y3, y4, y5, y6, y7, y8, y9, y10⟩ := g5 j lj'
    exact ⟨y1, y2, y3, y4, y5, y6, y7, (setA_n V 16 v (by omega)).trans y8, (setA_n V 16 v (by omega)).trans y9, (setA_n V 16 v (by omega)).trans y10⟩
  · by_cases c : x = 3 * i + w
    · rw [c]; show (setA V 16 (3 * i + w) v).2.1 16 (3 * i + w) < _; rw [setA_e]; exact hv
    · show (setA V 16 (3 * i + w) v).2.1 16 x < _; rw [setA_n _ _ _ c]; exact g12 x
set_option maxRecDepth 4096 in
theorem p_stamp (nb : Nat) (h5 : nb ≤ 512) : St_stamp nb (INV nb) := by
  intro σ τ x0 x1 x2 I
  obtain ⟨k, hk, rfl⟩ := nI_all x0
  obtain ⟨w, hw, rfl⟩ := nI_all x1
  rcases I.2.2 with ⟨h0, h2, hd, f, hf⟩ | ⟨V, d, f, h, H⟩
  · have ih := itemHere_X0 (nb := nb) h0 (nI k)
    have nn := no_M0 (nb := nb) h2 (nI k)
    refine ⟨(1, σ), stS τ 0 (nI 1), ?_, ?_, nmR I h0 h2 hd hf _, .inr (.inl ⟨rfl, stS_e _ _ _⟩)⟩
    · simp only [fXX0_stamp_0, fXX0_stamp_0_0, obs, ih, show ¬ (1 : Nat) = 0 by omega, if_false]
    · simp only [fMX12_stamp_0, fMX12_stamp_0_0, nn, obs, lit, nI10, if_false]
  · have H0 := H
    obtain ⟨G, hd, D, S, m1, h1, hkd, hf, R, h9, sh⟩ := H
    have hgl := G_lt G.1.1
    rcases itemHere_X H0 hk with ⟨q, a, ρ, k1, k2, k3, k4, k5, k6⟩ | ⟨k5, ρ, k1, k6⟩
    · rcases no_M H0 hk with ⟨a', be, n1, n2, n3⟩ | ⟨n1, _⟩
      · obtain rfl : a = a' := by rw [k5] at n1; injection n1
        obtain ⟨E, a1, a2, a3, a4, a5, a6⟩ := itmF G hkd k5
        obtain ⟨hl, DI, D2, hL⟩ := dirF G hkd
        have S1 := Sc_keep k1 S
        have io := inodeOf_X h5 D k2 hL k4
        have s10 : ∀ ρ' : XS, (XD (fnd ρ' (nI a) be (nI k)) f).1 10 = nI a := fun _ => rfl
        have fo := four_F h5 R a1
        obtain ⟨i, hi⟩ : ∃ i, rd4 (vdat V) a = i := ⟨_, rfl⟩
        have li : live V i := by rw [← hi]; exact E.2.2.1
        rw [hi] at io fo
        obtain ⟨in1, in2, in3⟩ := G.ino li
        have t0 : ∀ v, (XD (fnd (stS τ 0 v) (nI a) be (nI k)) f).1 0 = v := fun v => tF _ _ _ _
        have f0 := fails_0 nb (t0 (nI 0)) (nI 3)
        have f1 := fails_1 nb (t0 (nI 0)) (c := 3) (by omega) (by omega)
        rw [XD_S, fnd_S0, stS_S] at f1
        have L0 := lit 0; have L1 := lit 1; have L2 := lit 2; have L3 := lit 3
        by_cases c : w < 3
        · obtain ⟨v, v1, v2, v3⟩ := i64_low x2
          obtain ⟨d', D', st⟩ := setTime_X G.1.1 S1 D in1 in2 li c x2 v2
          have G2 := Good_tm G li c v1
          have R1 : RM nb V (fnd (stS τ 0 (nI 0)) (nI a) be (nI k)) f := RM_fnd (RM_S (by omega) R)
          have R2 : RM nb (setA V 16 (3 * i + w) v) (stS (stL (fnd (stS τ 0 (nI 0)) (nI a) be (nI k)) 0 (3 * i + w) (Int64.ofNat v)) 3 (nI 0)) f := by
            obtain ⟨r1, r2, r3, r4, r5, r6, r7, r8, r9⟩ := R1
            refine RM_S (by omega) ⟨r1, r2, r3, r4, r5, fun x hx => ?_, r7, r8, r9⟩
            rw [stL_at]
            by_cases e : x = 3 * i + w
            · rw [if_pos e, e]; congr 1; exact (setA_e V 16 _ v).symm
            · rw [if_neg e, r6 x hx]; congr 1; exact (setA_n V 16 v e).symm
          refine ⟨(0, XD ρ d'), XD (stS (stL (fnd (stS τ 0 (nI 0)) (nI a) be (nI k)) 0 (3 * i + w) (Int64.ofNat v)) 3 (nI 0)) f, ?_, ?_, ?_, .inl ⟨rfl, stS_e τ 0 (nI 0)⟩⟩
          · simp (disch := omega) only [fXX0_stamp_0, fXX0_stamp_0_0, obs, k6, if_true, io, L0, L2, nI_ltI', nI_leI', nI_eqI, nI_clampI, if_neg, if_pos, st]
          · simp (disch := omega) only [fMX12_stamp_0, fMX12_stamp_0_0, fMX12_stamp_0_23, n3, obs, L0, L2, L3, if_true, nI_ltI', nI_leI', nI_eqI, nI_clampI, if_neg, if_pos, f0, s10, fo, nI_mul, nI_add, n_or, XD_L, XD_S, v3]
          · exact INV_wr I H0 k1 G2 D' rfl hkd R2 (fun j hj => by
              rw [stS_k _ _ _ (by omega)]
              show (fnd (stS τ 0 (nI 0)) (nI a) be (nI k)).1 j = _
              rw [fnd_k _ _ _ _ (by omega) (by omega) (by omega), stS_k _ _ _ (by omega)]) (stS_e _ 3 _) (fun _ _ => rfl)
        · refine ⟨(3, XD ρ d), XD (fnd (stS τ 0 (nI 3)) (nI a) be (nI k)) f, ?_, ?_, INV_ro I H0 k1 (kF _ _ _ _), .inr (.inr (.inr ⟨rfl, tF _ _ _ _⟩))⟩
          · by_cases z : w < 2147483648
            · simp (disch := omega) only [fXX0_stamp_0, fXX0_stamp_0_0, fXX0_stamp_0_23, obs, k6, if_true, io, L0, L2, nI_ltI', nI_leI', nI_eqI, nI_clampI, if_neg]
            · have hneg := nI_neg (by omega) hw
              simp only [fXX0_stamp_0, fXX0_stamp_0_0, fXX0_stamp_0_23, obs, k6, if_true, io, L0]
              rw [if_pos hneg]
          · by_cases z : w < 2147483648
            · simp (disch := omega) only [fMX12_stamp_0, fMX12_stamp_0_0, fMX12_stamp_0_18, fMX12_stamp_0_23, n3, obs, L0, L1, L2, L3, if_true, nI_ltI', nI_leI', nI_eqI, nI_clampI, if_neg, f1]
            · have hneg := nI_neg (by omega) hw
              have e1 : fMX12_stamp_0 nb (nI k) (nI w) x2 τ = fMX12_stamp_0_18 nb (nI w) x2 (XD (fnd (stS τ 0 (nI 0)) (nI a) be (nI k)) f) := by
                simp only [fMX12_stamp_0, fMX12_stamp_0_0, n3, obs, L0, if_true]
                rw [if_pos hneg]
              rw [e1]
              simp only [fMX12_stamp_0_18, fMX12_stamp_0_23, L1, L3, f1, obs, L0, nI10, if_false]
      · rw [k5] at n1; cases n1
    · rcases no_M H0 hk with ⟨a', be, n1, n2, n3⟩ | ⟨n1, fo, be, se, n3⟩
      · rw [k5] at n1; cases n1
      · refine ⟨(2, XD ρ d), XD (fnd (stS τ 0 (nI 2)) fo be se) f, ?_, ?_, INV_ro I H0 k1 (kF _ _ _ _), .inr (.inr (.inl ⟨rfl, tF _ _ _ _⟩))⟩
        · simp only [fXX0_stamp_0, fXX0_stamp_0_0, obs, k6, show ¬ (2 : Nat) = 0 by omega, if_false]
        · simp only [fMX12_stamp_0, fMX12_stamp_0_0, n3, obs, lit, nI10, if_false]
