def keepM (τ τ' : XS) : Prop := τ'.1 = τ.1 ∧ (∀ k, (k = 1 ∨ k = 2 ∨ k = 3 ∨ k = 15 ∨ k = 17) → τ'.2.1 k = τ.2.1 k) ∧ τ'.2.2 = τ.2.2
set_option maxRecDepth 4096 in
theorem keepM_rfl (τ : XS) : keepM τ τ := ⟨rfl, fun _ _ => rfl, rfl⟩
set_option maxRecDepth 4096 in
theorem keepM_trans {a b c : XS} (h : keepM a b) (g : keepM b c) : keepM a c := ⟨g.1.trans h.1, fun k hk => (g.2.1 k hk).trans (h.2.1 k hk), g.2.2.trans h.2.2⟩
set_option maxRecDepth 4096 in
theorem stA_k (τ : XS) (m x : Nat) (v : Int32) {k : Nat} (h : k ≠ m) : (stA τ m x v).2.1 k = τ.2.1 k := va_up_ne _ _ h
set_option maxRecDepth 4096 in
theorem keepM_stA (τ : XS) (m x : Nat) (v : Int32) (h : m ≠ 1 ∧ m ≠ 2 ∧ m ≠ 3 ∧ m ≠ 15 ∧ m ≠ 17) : keepM τ (stA τ m x v) := ⟨rfl, fun k hk => stA_k τ m x v (by omega), rfl⟩
set_option maxRecDepth 4096 in
theorem keepM_tk (τ : XS) (b : Nat) : keepM τ (tkM τ b) := keepM_trans (keepM_stA τ 4 b _ (by omega)) (keepM_stA _ 5 b _ (by omega))
set_option maxRecDepth 4096 in
theorem keepM_gb (τ : XS) (i n l b : Nat) : keepM τ (gbM τ i n l b) := ⟨gbM_s .., fun k hk => gbM_a _ _ _ _ _ k (by omega) (by omega) (by omega) (by omega) (by omega), gbM_l ..⟩
set_option maxRecDepth 4096 in
theorem XD_k (τ : XS) (f : Nat → Nat) (k x : Nat) (h : k ≠ 0) : (XD τ f).2.1 k x = τ.2.1 k x := by rw [XD_o _ _ h]
set_option maxRecDepth 4096 in
theorem gain124_M {nb : Nat} {V : VV} {τ : XS} {f : Nat → Nat} (O : OwnC nb V) (hn : nb ≤ 512) (h : RM nb V τ f) {i b : Nat} (hi : i < 2100) (hb : b < nb) (hlow : lowB V b) (hli : live V i) :
    fMX12_gain_0_124 nb (nI i) (nI (vmn V i)) (XD τ f) = some (XD (gbM τ i (vmn V i) (vbl V i (vmn V i - 1)) b) (wrF f (1024 * b) (1024 * b + 1024) 0)) := by
  have tk := take_M hn τ f h.2.1 hb hlow
  have hm9 := (h.2.2.1 i hi).2.2.2.1
  have hmn : vmn V i < 2147483647 := by
    rcases Nat.eq_zero_or_pos (vmn V i) with e | e
    · omega
    · have := pig (nb - 1) (vmn V i) (fun k => vbl V i k - 1) (fun k hk => by have := O.1 i k hli hk; show vbl V i k - 1 < nb - 1; omega) (fun k l hk hl' e => by
        have h1 := O.1 i k hli hk; have h2 := O.1 i l hli hl'
        have e : vbl V i k - 1 = vbl V i l - 1 := e
        have e' : vbl V i k = vbl V i l := by omega
        rw [← h1.2.2.2.2, ← h2.2.2.2.2, e'])
      omega
  unfold gbM
  by_cases c : vmn V i = 0
  · rw [if_pos c]
    have e9 : (XD (stA (stA (tkM τ b) 10 i (nI b)) 11 i (nI b)) (wrF f (1024 * b) (1024 * b + 1024) 0)).2.1 9 i = nI (vmn V i) := hm9
    rw [c] at e9 ⊢
    simp (disch := omega) only [fMX12_gain_0_124, fMX12_gain_0_155, tk, obs, lit, litN, nI_ltI', nI_leI', nI_eqI, nI_clampI, n_or, if_neg, if_true, XD_A, e9, nI_add]
  · rw [if_neg c]
    have o := O.1 i (vmn V i - 1) hli (by omega)
    have e11 : (XD (tkM τ b) (wrF f (1024 * b) (1024 * b + 1024) 0)).2.1 11 i = nI (vbl V i (vmn V i - 1)) := h.2.2.2.1 i hi hli (by omega)
    have e9 : (XD (stA (stA (tkM τ b) 5 (vbl V i (vmn V i - 1)) (nI b)) 11 i (nI b)) (wrF f (1024 * b) (1024 * b + 1024) 0)).2.1 9 i = nI (vmn V i) := hm9
    simp (disch := omega) only [fMX12_gain_0_124, fMX12_gain_0_155, tk, obs, lit, litN, nI_ltI', nI_leI', nI_eqI, nI_clampI, n_or, if_neg, e11, XD_A, e9, nI_add]
set_option maxRecDepth 4096 in
theorem gain_M {nb : Nat} {V : VV} (A : Stc nb V) {τ : XS} {f : Nat → Nat} (h : RM nb V τ f) {i : Nat} (hi : i < 2100) (hl : live V i) (P : Shp V i) (hf : cost (vmn V i) ≤ nfb V) :
    ∃ τ' f', RM nb (addB V i) τ' f' ∧ keepM τ τ' ∧ fMX12_gain_0 nb (nI i) (XD τ f) = some (XD τ' f') := by
  obtain ⟨B, C, O⟩ := A
  have hg := G_lt B
  have hn : nb ≤ 512 := by omega
  have hmn := mn_lt B O hl
  obtain ⟨P1, P2, P3, P4⟩ := P
  have hcp : 1 ≤ cost (vmn V i) := by unfold cost; split <;> (try split) <;> omega
  obtain ⟨lb1, lb2⟩ := lb_low B (by omega)
  have e9 : (XD τ f).2.1 9 i = nI (vmn V i) := (h.2.2.1 i hi).2.2.2.1
  unfold addB
  by_cases c12 : vmn V i = 12
  · rw [if_pos c12]
    have hf2 : 2 ≤ nfb V := by rw [c12] at hf; exact hf
    have h0 : vsg V i = 0 := Decidable.byContradiction (fun h => by have := P1.mp h; omega)
    have tk := take_M hn τ f h.2.1 lb1 lb2
    have R1 := RM_gS (i := i) O hn h lb1 lb2
    obtain ⟨A1, n1⟩ := Stc_gS ⟨B, C, O⟩ lb1 lb2 hl h0
    have hl1 : live (gS V i (lb V)) i := by unfold live; rw [gS_kd]; exact hl
    obtain ⟨lc1, lc2⟩ := lb_low A1.1 (by omega)
    have e1 : vmn (gS V i (lb V)) i = 12 := by rw [gS_mn]; exact c12
    have g := gain124_M A1.2.2 hn R1 hi lc1 lc2 hl1
    have R2 := RM_gB A1.2.2 hn R1 lc1 lc2 hl1
    refine ⟨_, _, R2, keepM_trans (keepM_trans (keepM_tk τ (lb V)) (keepM_stA _ 12 i _ (by omega))) (keepM_gb _ _ _ _ _), ?_⟩
    rw [e1] at g ⊢
    rw [c12] at e9
    simp (disch := omega) only [fMX12_gain_0, fMX12_gain_0_0, fMX12_gain_0_23, fMX12_gain_0_40, lit, litN, nI_ltI', nI_leI', nI_eqI, nI_clampI, n_or, if_neg, e9, if_true, tk, obs, XD_A, if_pos]
    exact g
  · rw [if_neg c12]
    by_cases c268 : vmn V i = 268
    · rw [if_pos c268]
      have hf3 : 3 ≤ nfb V := by rw [c268] at hf; exact hf
      have h0 : vdb V i = 0 := Decidable.byContradiction (fun h => by have := P2.mp h; omega)
      have hr0 : vrn V i = 0 := by rw [P3, if_neg (by omega)]
      have tk := take_M hn τ f h.2.1 lb1 lb2
      have R1 := RM_gD (i := i) O hn h lb1 lb2
      obtain ⟨A1, n1⟩ := Stc_gD ⟨B, C, O⟩ lb1 lb2 hl h0
      have hl1 : live (gD V i (lb V)) i := by unfold live; rw [gD_kd]; exact hl
      obtain ⟨lc1, lc2⟩ := lb_low A1.1 (by omega)
      have hr1 : vrn (gD V i (lb V)) i = 0 := by rw [gD_rn]; exact hr0
      have tk1 := take_M hn (stA (tkM τ (lb V)) 13 i (nI (lb V))) (wrF f (1024 * lb V) (1024 * lb V + 1024) 0) R1.2.1 lc1 lc2
      have R2 := RM_gR (i := i) A1.2.2 hn R1 lc1 lc2 hr1
      obtain ⟨A2, n2⟩ := Stc_gR A1 lc1 lc2 hl1
      have hl2 : live (gR (gD V i (lb V)) i (lb (gD V i (lb V)))) i := by unfold live; rw [gR_kd]; exact hl1
      obtain ⟨ld1, ld2⟩ := lb_low A2.1 (by omega)
      have e1 : vmn (gR (gD V i (lb V)) i (lb (gD V i (lb V)))) i = 268 := by rw [gR_mn, gD_mn]; exact c268
      have g := gain124_M A2.2.2 hn R2 hi ld1 ld2 hl2
      have R3 := RM_gB A2.2.2 hn R2 ld1 ld2 hl2
      refine ⟨_, _, R3, keepM_trans (keepM_trans (keepM_trans (keepM_tk τ (lb V)) (keepM_stA _ 13 i _ (by omega))) (keepM_trans (keepM_tk _ _) (keepM_stA _ 14 i _ (by omega)))) (keepM_gb _ _ _ _ _), ?_⟩
      rw [e1] at g ⊢
      rw [c268] at e9
      have hfar : far0 V i = 0 := by unfold far0; rw [if_pos hr0]
      have e14 : ∀ b c h, (XD (tkM (stA (tkM τ b) 13 i (nI b)) c) h).2.1 14 i = nI 0 := fun b c h' => by
        have := (h.2.2.1 i hi).2.2.2.2.2.2.2; rw [hfar] at this; exact this
      have z : nI (268 - 268) - nI (268 - 268) / nI 256 * nI 256 = nI 0 := by decide +kernel
      have key : ∀ (b0 : Int32) (ρ : XS), lfix (fun k84 t => fMX12_gain_0_84 nb k84 t.1 t.2.1 t.2.2.1 t.2.2.2.1 t.2.2.2.2) FU (nI i, nI 268, b0, nI 0, ρ) = fMX12_gain_0_124 nb (nI i) (nI 268) ρ := fun b0 ρ => by
        have hfu : FU = (FU - 1) + 1 := by unfold FU; omega
        rw [hfu]
        show fMX12_gain_0_84 nb _ (nI i) (nI 268) b0 (nI 0) ρ = _
        simp only [fMX12_gain_0_84, fMX12_gain_0_111, lit, litN, if_true]
      simp (disch := omega) only [fMX12_gain_0, fMX12_gain_0_0, fMX12_gain_0_23, fMX12_gain_0_40, lit, litN, nI_ltI', nI_leI', nI_eqI, nI_clampI, n_or, if_neg, e9, if_true, tk, obs, XD_A, if_pos, nI_sub, z, tk1, e14]
      rw [key]
      exact g
    · rw [if_neg c268]
      have g := gain124_M O hn h hi lb1 lb2 hl
      have R1 := RM_gB O hn h lb1 lb2 hl
      refine ⟨_, _, R1, keepM_gb _ _ _ _ _, ?_⟩
      by_cases c1 : vmn V i < 268
      · simp (disch := omega) only [fMX12_gain_0, fMX12_gain_0_0, fMX12_gain_0_23, fMX12_gain_0_40, lit, litN, nI_ltI', nI_leI', nI_eqI, nI_clampI, n_or, if_neg, e9, if_pos]
        exact g
      · have z : (vmn V i - 268) / 256 = 0 := by omega
        simp (disch := omega) only [fMX12_gain_0, fMX12_gain_0_0, fMX12_gain_0_23, fMX12_gain_0_40, lit, litN, nI_ltI', nI_leI', nI_eqI, nI_clampI, n_or, if_neg, e9, nI_sub, nI_div, nI_mul, z]
        exact g
