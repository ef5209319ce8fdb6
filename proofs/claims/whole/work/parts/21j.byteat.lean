set_option maxRecDepth 4096 in
theorem show_M {nb : Nat} (h5 : nb ≤ 512) {V : VV} (G : Good nb V) {τ : XS} {f g0 : Nat → Nat} (R : RM nb V τ f) (h3 : τ.1 3 = nI 0) :
    ∃ g', (∀ b o, b < nb → o < 1024 → vot V b ≠ 0 → g' (1024 * b + o) = TT nb V (1024 * b + o)) ∧ fMX12_show_0 nb (XD (XI τ g0) f) = some (XD (XI (stS τ 3 (nI 1)) g') f) := by
  have A := G.1
  have hg := G_lt A.1
  have RS : RM nb V (stS τ 3 (nI 1)) f := RM_S (by omega) R
  -- nothing
  have key1 : ∃ g1, g1 = wrF g0 0 (1024 * nb) 0 ∧ ∀ u : Unit, lfix ((fun _ k15 t => fMX12_show_0_15 nb k15 t.1 t.2) u) FU (nI 0, XD (XI (stS τ 3 (nI 1)) g0) f) = (fun (_ : Unit) g1 => lfix (fun k42 t => fMX12_show_0_42 nb k42 t.1 t.2) FU (nI 0, XD (XI (stS τ 3 (nI 1)) g1) f)) u g1 := by
    refine lfor (κ := Unit) (fun _ k15 t => fMX12_show_0_15 nb k15 t.1 t.2) (fun k (g' : Nat → Nat) => (nI k, XD (XI (stS τ 3 (nI 1)) g') f)) (fun _ g1 => lfix (fun k42 t => fMX12_show_0_42 nb k42 t.1 t.2) FU (nI 0, XD (XI (stS τ 3 (nI 1)) g1) f)) (1024 * nb) (fun k g => g = wrF g0 0 k 0) ?_ ?_ 0 g0 FU (Nat.zero_le _) (wrF_self g0 0 0).symm (by unfold FU; omega)
    · rintro k g hk rfl
      refine ⟨_, rfl, fun _ K => ?_⟩
      have e := wrF_succ g0 (a := 0) (b := k) (by omega) 0
      simp (disch := omega) only [fMX12_show_0_15, lit, litN, nI_mul, nI_ltI', nI_leI', nI_eqI, nI_clampI, n_or, if_neg, nar0, XI_put, e, nI_add]
    · rintro g rfl _ K
      simp (disch := omega) only [fMX12_show_0_15, lit, litN, nI_mul, nI_ltI', nI_leI', nI_eqI, nI_clampI, if_pos]
  obtain ⟨g1, e1, h1⟩ := key1
  have Z1 : Zr nb V g1 := fun a ha => .inr (by rw [e1]; unfold wrF; rw [if_pos (by omega)])
  have s7 : ∀ g, (XD (XI (stS τ 3 (nI 1)) g) f).1 7 = nI (vQ V) := fun _ => RS.1.2.2.2.2.1
  have key2 : ∃ g2, (Adv nb V g1 g2 ∧ ∀ x, x < vQ V → gcov nb V g2 x) ∧ ∀ u : Unit, lfix ((fun _ k42 t => fMX12_show_0_42 nb k42 t.1 t.2) u) FU (nI 0, XD (XI (stS τ 3 (nI 1)) g1) f) = (fun (_ : Unit) g2 => lfix (fun k63 t => fMX12_show_0_63 nb k63 t.1 t.2) FU (nI 1, XD (XI (stS τ 3 (nI 1)) g2) f)) u g2 := by
    refine lfor (κ := Unit) (fun _ k42 t => fMX12_show_0_42 nb k42 t.1 t.2) (fun k (g' : Nat → Nat) => (nI k, XD (XI (stS τ 3 (nI 1)) g') f)) (fun _ g2 => lfix (fun k63 t => fMX12_show_0_63 nb k63 t.1 t.2) FU (nI 1, XD (XI (stS τ 3 (nI 1)) g2) f)) (vQ V) (fun k g => Adv nb V g1 g ∧ ∀ x, x < k → gcov nb V g x) ?_ ?_ 0 g1 FU (Nat.zero_le _) ⟨Adv_rfl Z1, by omega⟩ (by unfold FU; omega)
    · rintro k g hk ⟨a1, a2⟩
      obtain ⟨g', c1, c2, c3, c4⟩ := grp_M A.1 G.2.2.2.2.2.1.1 A.2.1 G.2.1 G.2.2.1 RS a1.1 hk
      refine ⟨g', ⟨Adv_trans a1 c1, fun x hx => ?_⟩, fun _ K => ?_⟩
      · by_cases c : x = k
        · subst c; exact ⟨c2, c3⟩
        · exact gcov_adv A.1 c1 (by omega) (a2 x (by omega))
      · simp (disch := omega) only [fMX12_show_0_42, s7, lit, litN, nI_ltI', nI_leI', nI_eqI, nI_clampI, if_neg, c4, obs, nI_add]
    · rintro g ⟨a1, a2⟩ _ K
      simp (disch := omega) only [fMX12_show_0_42, s7, lit, litN, nI_ltI', nI_leI', nI_eqI, nI_clampI, if_pos]
  obtain ⟨g2, ⟨a1, a2⟩, h2⟩ := key2
  obtain ⟨g3, ⟨b1, b2⟩, h3'⟩ := inos_M G RS a1.1
  refine ⟨g3, fun b o hb ho hv => TT_all G b1.1 (fun x hx => gcov_adv A.1 b1 hx (a2 x hx)) b2 hb ho hv, ?_⟩
  have e3 : (XD (XI τ g0) f).1 3 = nI 0 := h3
  have es : stS (XD (XI τ g0) f) 3 (nI 1) = XD (XI (stS τ 3 (nI 1)) g0) f := rfl
  simp only [fMX12_show_0, fMX12_show_0_0, lit, litN, e3, if_true, es]
  exact (h1 ()).trans ((h2 ()).trans h3')
set_option maxRecDepth 4096 in
theorem XIe {τ : XS} {g : Nat → Nat} (h : τ.2.1 1 = fun a => sb (g a)) : XI τ g = τ := by
  unfold XI
  refine Prod.ext rfl (Prod.ext ?_ rfl)
  funext k
  show va_up τ.2.1 1 (fun a => sb (g a)) k = _
  by_cases c : k = 1
  · subst c; rw [va_up_self, h]
  · rw [va_up_ne _ _ c]
set_option maxRecDepth 4096 in
theorem p_byteAt (nb : Nat) (h1b : 128 ≤ nb) (h5 : nb ≤ 512) : St_byteAt nb (INV nb) := by
  intro σ τ x0 I
  obtain ⟨k, hk, rfl⟩ := nI_all x0
  have ln : ∀ s, fXX1_length_1 nb s = some (nI (nb * 1024), s) := fun s => by
    simp only [fXX1_length_1_0, fXX1_length_1, lit, litN, nI_mul]
  have lnm : nI 1024 * nI nb = nI (nb * 1024) := by rw [nI_mul, Nat.mul_comm]
  have oob : (nI k < nI 0 ∨ (¬ nI k < nI 0 ∧ ¬ nI k < nI (nb * 1024))) → fXX0_byteAt_0 nb (nI k) σ = some (-nI 1, σ) ∧ fMX12_byteAt_0 nb (nI k) τ = some (-nI 1, stS τ 0 (nI 0)) := fun h => by
    rcases h with h | ⟨h, h'⟩
    · constructor
      · simp only [fXX0_byteAt_0, fXX0_byteAt_0_0, lit, litN, h, if_true]
      · simp only [fMX12_byteAt_0, fMX12_byteAt_0_0, lit, litN, h, if_true]
    · constructor
      · simp only [fXX0_byteAt_0, fXX0_byteAt_0_0, lit, litN, h, if_false, ln, obs, h']
      · simp only [fMX12_byteAt_0, fMX12_byteAt_0_0, lit, litN, h, if_false, lnm, h']
  by_cases ck : k < nb * 1024
  · have kn : ¬ nI k < nI 0 := nI_nn (by omega)
    rcases I.2.2 with ⟨h0, h2, hd, f, hf⟩ | ⟨V, d, f, h, H⟩
    · refine ⟨(nI 0, σ), (nI 0, stS τ 0 (nI 0)), ?_, ?_, rfl, nmR I h0 h2 hd hf _⟩
      · have g := get_X (nb := nb) (a := k) σ (fun _ => 0) h5 ck
        rw [XDe hd] at g
        simp (disch := omega) only [fXX0_byteAt_0, fXX0_byteAt_0_0, fXX0_byteAt_0_49, fXX0_byteAt_0_50, lit, litN, kn, if_false, ln, obs, nI_ltI', nI_leI', nI_eqI, nI_clampI, if_pos, h0, if_true, g]
      · simp (disch := omega) only [fMX12_byteAt_0, fMX12_byteAt_0_0, lit, litN, kn, if_false, lnm, nI_ltI', nI_leI', nI_eqI, nI_clampI, if_pos, h2, if_true]
    · have H0 := H
      obtain ⟨G, hd, D, S, m1, h1, hkd, hf, R, h9, sh⟩ := H
      obtain ⟨g0, hg0⟩ := I.2.1
      have hgl := G_lt G.1.1
      have hb : k / 1024 < nb := by omega
      have hk2 : 1024 * (k / 1024) + k % 1024 = k := by omega
      have h2m : τ.1 2 = nI 1 := RM1 G R
      by_cases cu : vot V (k / 1024) = 0
      · -- hidden
        have hk0 : 1 ≤ k / 1024 := by
          rcases Nat.eq_zero_or_pos (k / 1024) with q | q
          · rw [q, G.1.1.2.2.1] at cu; omega
          · exact q
        have iu := isUsed4_X G.1.1 S D hk0 hb
        rw [if_neg (by omega), XDe hd] at iu
        refine ⟨(-nI 1, σ), (-nI 1, stS τ 0 (nI 0)), ?_, ?_, rfl, ?_⟩
        · simp (disch := omega) only [fXX0_byteAt_0, fXX0_byteAt_0_0, fXX0_byteAt_0_49, fXX0_byteAt_0_50, lit, litN, kn, if_false, ln, obs, nI_ltI', nI_leI', nI_eqI, nI_clampI, if_pos, m1, nI10, nI_div, if_neg, iu, if_true]
        · have u4 : (stS τ 0 (nI 0)).2.1 4 (k / 1024) = nI 0 := by
            have := R.2.1 (k / 1024) hk0 (by omega)
            rw [if_pos cu] at this; exact this
          simp (disch := omega) only [fMX12_byteAt_0, fMX12_byteAt_0_0, lit, litN, kn, if_false, lnm, nI_ltI', nI_leI', nI_eqI, nI_clampI, if_pos, h2m, nI10, nI_div, if_neg, n_or, u4, if_true]
        · have := INV_ro (τ' := stS τ 0 (nI 0)) (ρ := σ) I H0 (keepX_rfl σ) (keepT_S τ (nI 0) (by omega))
          rw [XDe hd, XDe (show (stS τ 0 (nI 0)).2.1 0 = _ from hf)] at this; exact this
      · -- shown
        have hv2 : 2 ≤ vot V (k / 1024) := by have := (G.2.2.2.2.2.2.1 (k / 1024)).1; omega
        have dk : d k = img nb V (k / 1024) (k % 1024) := by
          have := D (k / 1024) (k % 1024) hb (by omega) hv2
          rw [hk2] at this; exact this
        have g := get_X (nb := nb) (a := k) σ d h5 ck
        rw [XDe hd, dk] at g
        have X : fXX0_byteAt_0 nb (nI k) σ = some (nI (img nb V (k / 1024) (k % 1024) % 256), σ) := by
          by_cases c0 : k / 1024 = 0
          · simp (disch := omega) only [fXX0_byteAt_0, fXX0_byteAt_0_0, fXX0_byteAt_0_49, fXX0_byteAt_0_50, lit, litN, kn, if_false, ln, obs, nI_ltI', nI_leI', nI_eqI, nI_clampI, if_pos, if_neg, m1, nI10, nI_div, if_true, g]
          · have iu := isUsed4_X G.1.1 S D (by omega) hb
            rw [if_pos cu, XDe hd] at iu
            simp (disch := omega) only [fXX0_byteAt_0, fXX0_byteAt_0_0, fXX0_byteAt_0_49, fXX0_byteAt_0_50, lit, litN, kn, if_false, ln, obs, nI_ltI', nI_leI', nI_eqI, nI_clampI, if_pos, if_neg, m1, nI10, nI_div, iu, if_true, g]
        have R0 : RM nb V (stS τ 0 (nI 0)) f := RM_S (by omega) R
        obtain ⟨τ', g', e1, e2, e3, e4, e5⟩ : ∃ (τ' : XS) (g' : Nat → Nat), fMX12_show_0 nb (stS τ 0 (nI 0)) = some τ' ∧ (∀ b o, b < nb → o < 1024 → vot V b ≠ 0 → g' (1024 * b + o) = TT nb V (1024 * b + o)) ∧ τ'.2.1 1 = (fun a => sb (g' a)) ∧ τ'.1 3 = nI 1 ∧ (∀ j, j ≠ 0 → j ≠ 3 → τ'.1 j = τ.1 j) ∧ τ'.1 0 = nI 0 ∧ (∀ j, j ≠ 1 → τ'.2.1 j = τ.2.1 j) ∧ τ'.2.2 = τ.2.2 := by
          rcases sh with s3 | ⟨s3, s1⟩
          · obtain ⟨g', q1, q2⟩ := show_M (g0 := g0) h5 G R0 (τ := stS τ 0 (nI 0)) s3
            rw [XIe (show (stS τ 0 (nI 0)).2.1 1 = _ from hg0), XDe (show (stS τ 0 (nI 0)).2.1 0 = _ from hf)] at q2
            refine ⟨_, g', q2, q1, rfl, stS_e (stS τ 0 (nI 0)) 3 (nI 1), fun j j0 j3 => ?_, ?_, fun j hj => ?_, rfl⟩
            · show (stS (stS τ 0 (nI 0)) 3 (nI 1)).1 j = _
              rw [stS_k _ _ _ j3, stS_k _ _ _ j0]
            · show (stS (stS τ 0 (nI 0)) 3 (nI 1)).1 0 = _
              rw [stS_k _ _ _ (by omega), stS_e]
            · by_cases c0 : j = 0
              · subst c0; exact hf.symm
              · rw [XD_o _ _ c0, XI_o _ _ hj]; rfl
          · have e : (stS τ 0 (nI 0)).1 3 = nI 1 := s3
            refine ⟨stS τ 0 (nI 0), fun a => if a < 1024 * nb ∧ vot V (a / 1024) ≠ 0 then TT nb V a else g0 a, by simp only [fMX12_show_0, fMX12_show_0_0, lit, litN, e, nI10, if_false], fun b o hb' ho hv => ?_, ?_, e, fun j j0 _ => stS_k _ _ _ j0, stS_e _ _ _, fun j _ => rfl, rfl⟩
            · exact if_pos ⟨by omega, by rw [show (1024 * b + o) / 1024 = b by omega]; exact hv⟩
            · show τ.2.1 1 = _
              funext a
              show _ = sb (if a < 1024 * nb ∧ vot V (a / 1024) ≠ 0 then TT nb V a else g0 a)
              by_cases c : a < 1024 * nb ∧ vot V (a / 1024) ≠ 0
              · rw [if_pos c]
                have := s1 (a / 1024) (a % 1024) (by omega) (by omega) c.2
                rw [show 1024 * (a / 1024) + a % 1024 = a by omega] at this
                rw [this]; unfold TT; rw [sb_mod]
              · rw [if_neg c, hg0]
        obtain ⟨e5, e6, e7, e8⟩ := e5
        have v1 : τ'.2.1 1 k &&& nI 255 = nI (img nb V (k / 1024) (k % 1024) % 256) := by
          rw [e3]
          show sb (g' k) &&& nI 255 = _
          have := e2 (k / 1024) (k % 1024) hb (by omega) cu
          rw [hk2] at this
          rw [sb_and, this]; unfold TT; rw [Nat.mod_mod]
        have M : fMX12_byteAt_0 nb (nI k) τ = some (nI (img nb V (k / 1024) (k % 1024) % 256), τ') := by
          by_cases c0 : k / 1024 = 0
          · simp (disch := omega) only [fMX12_byteAt_0, fMX12_byteAt_0_0, fMX12_byteAt_0_54, lit, litN, kn, if_false, lnm, nI_ltI', nI_leI', nI_eqI, nI_clampI, if_pos, h2m, nI10, e1, obs, n_or, false_or, if_neg, v1]
          · have u4 : (stS τ 0 (nI 0)).2.1 4 (k / 1024) = nI 1 := by
              have := R.2.1 (k / 1024) (by omega) (by omega)
              rw [if_neg cu] at this; exact this
            simp (disch := omega) only [fMX12_byteAt_0, fMX12_byteAt_0_0, fMX12_byteAt_0_54, lit, litN, kn, if_false, lnm, nI_ltI', nI_leI', nI_eqI, nI_clampI, if_pos, h2m, nI10, nI_div, u4, e1, obs, n_or, false_or, if_neg, v1]
        refine ⟨_, _, X, M, rfl, ?_⟩
        obtain ⟨w, r, n, t1, t2, t3, t4, t5, t6, t7⟩ := I.1
        refine ⟨⟨w, r, n, t1, t2, (e5 1 (by omega) (by omega)).trans t3, t4, fun j hj => by rw [e7 2 (by omega)]; exact t5 j hj, t6, fun j hj => by rw [e7 3 (by omega)]; exact t7 j hj⟩, ⟨g', e3⟩, .inr ⟨V, d, f, h, G, hd, D, S, m1, h1, hkd, (e7 0 (by omega)).trans hf, RM_tau R (fun j hj => e5 j (by omega) (by omega)) (fun j j1 j2 => e7 j (by omega)) e8, (e5 9 (by omega) (by omega)).trans h9, .inr ⟨e4, fun b o hb' ho hv => ?_⟩⟩⟩
        rw [e3]
        show sb (g' _) = _
        rw [e2 b o hb' ho hv]
        rw [TT_b _ ho, sb_mod]
  · have hoob : nI k < nI 0 ∨ (¬ nI k < nI 0 ∧ ¬ nI k < nI (nb * 1024)) := by
      rcases Nat.lt_or_ge k 2147483648 with q | q
      · right
        refine ⟨nI_nn q, ?_⟩
        rw [nI_ltI' (by omega) (by omega)]; omega
      · exact .inl (nI_neg q hk)
    obtain ⟨X, M⟩ := oob hoob
    refine ⟨_, _, X, M, rfl, ?_⟩
    rcases I.2.2 with ⟨h0, h2, hd, f, hf⟩ | ⟨V, d, f, h, H⟩
    · exact nmR I h0 h2 hd hf _
    · have := INV_ro (τ' := stS τ 0 (nI 0)) (ρ := σ) I H (keepX_rfl σ) (keepT_S τ (nI 0) (by omega))
      rw [XDe H.2.1, XDe (show (stS τ 0 (nI 0)).2.1 0 = _ from H.2.2.2.2.2.2.2.1)] at this; exact this
