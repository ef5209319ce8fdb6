
set_option maxRecDepth 4096 in
theorem INV_wr {nb : Nat} {V V' : VV} {σ τ ρ τ' : XS} {d f d' f' : Nat → Nat} {h : Nat} (I : INV nb σ τ) (H : VolR nb V σ τ d f h) (hx : keepX σ ρ) (G : Good nb V') (D : DX nb V' d') (e1 : V'.1 = V.1) (hk : vkd V' h = 2) (R : RM nb V' τ' f') (t1 : ∀ k, (k = 1 ∨ k = 9) → τ'.1 k = τ.1 k) (t3 : τ'.1 3 = nI 0) (t2 : ∀ k, (k = 1 ∨ k = 2 ∨ k = 3) → τ'.2.1 k = τ.2.1 k) : INV nb (XD ρ d') (XD τ' f') := by
  obtain ⟨G0, hd, D0, S, m1, h1, hkd, hf, R0, h9, sh⟩ := H
  obtain ⟨g, hg⟩ := I.2.1
  obtain ⟨w, r, t, b1, b2, b3, b4, b5, b6, b7⟩ := I.1
  refine ⟨⟨w, r, t, b1, (hx.1 8 (by omega)).trans b2, (t1 1 (by omega)).trans b3, fun k hk => ?_, fun k hk => ?_, fun k hk => ?_, fun k hk => ?_⟩, ⟨g, by rw [XD_o _ _ (by omega), t2 1 (by omega)]; exact hg⟩, .inr ⟨V', d', f', h, G, rfl, D, ?_, (hx.1 0 (by omega)).trans m1, (hx.1 1 (by omega)).trans h1, hk, rfl, ?_, (t1 9 (by omega)).trans h9, .inl t3⟩⟩
  · rw [XD_o _ _ (by omega), hx.2.1 6 (by omega)]; exact b4 k hk
  · rw [XD_o _ _ (by omega), t2 2 (by omega)]; exact b5 k hk
  · rw [XD_o _ _ (by omega), hx.2.1 7 (by omega)]; exact b6 k hk
  · rw [XD_o _ _ (by omega), t2 3 (by omega)]; exact b7 k hk
  · exact (Sc_of e1 (Sc_keep hx S) : Sc V' ρ)
  · exact RM_tau R (fun _ _ => rfl) (fun k k1 k2 => XD_o _ _ (by omega)) rfl
set_option maxRecDepth 4096 in
theorem app_no {nb : Nat} {V : VV} {σ τ : XS} {d f : Nat → Nat} {h : Nat} (H : VolR nb V σ τ d f h) {i c : Nat} (hi : vkd V i = 1) (hc : c < 401000) (fo be se : Int32) (x3 x4 : Int32) (hf : ¬ alln (prt (vsz V i + c)) ≤ nfb V + alln (vmn V i)) :
    fMX12_append_0 nb (nI i) (nI c) x3 x4 (XD (fnd (stS τ 0 (nI 0)) fo be se) f) = some (nI 0, XD (fnd (stS τ 0 (nI 4)) fo be se) f) := by
  obtain ⟨G, hd, D, S, m1, h1, hkd, hf', R, h9, sh⟩ := H
  have hl : live V i := .inl hi
  have hin := G.ino hl
  have hsz := G.sz i
  have hmn := mn_lt G.1.1 G.1.2.2 hl
  have hg := G_lt G.1.1
  have R1 : RM nb V (fnd (stS τ 0 (nI 0)) fo be se) f := RM_fnd (RM_S (by omega) R)
  have x7 : (XD (fnd (stS τ 0 (nI 0)) fo be se) f).2.1 7 i = nI (vsz V i) := by rw [XD_k _ _ _ _ (by omega)]; exact (R.2.2.1 i hin.2.2).2.1
  have x9 : (XD (fnd (stS τ 0 (nI 0)) fo be se) f).2.1 9 i = nI (vmn V i) := by rw [XD_k _ _ _ _ (by omega)]; exact (R.2.2.1 i hin.2.2).2.2.2.1
  have pt := parts_M nb (XD (fnd (stS τ 0 (nI 0)) fo be se) f) (x := vsz V i + c) (y := 1024) (by omega) (by omega)
  have hpp : (vsz V i + c + 1024 - 1) / 1024 = prt (vsz V i + c) := by unfold prt; rfl
  rw [hpp] at pt
  have hpb : prt (vsz V i + c) < 3000 := by unfold prt; omega
  have a1 := all_M nb (XD (fnd (stS τ 0 (nI 0)) fo be se) f) (n := prt (vsz V i + c)) (by omega)
  have a2 := all_M nb (XD (fnd (stS τ 0 (nI 0)) fo be se) f) (n := vmn V i) (by omega)
  have fb := freeB_M G.1.1 R1
  have hb := alln_big (prt (vsz V i + c))
  have hle : vmn V i ≤ prt (vsz V i + c) := by rw [← (G.2.2.2.1 i hl).2]; unfold prt; omega
  have hm := alln_mono hle
  have hnf := nfb_lt G.1.1
  have f1 := fails_1 nb (show (XD (fnd (stS τ 0 (nI 0)) fo be se) f).1 0 = nI 0 from tF _ _ _ _) (c := 4) (by omega) (by omega)
  rw [XD_S, fnd_S0, stS_S] at f1
  simp (disch := omega) only [fMX12_append_0, fMX12_append_0_0, fMX12_append_0_48, lit, litN, nI_ltI', nI_leI', nI_eqI, nI_clampI, n_or, if_neg, x7, nI_add, pt, obs, a1, x9, a2, fb, nI_sub, f1]
set_option maxRecDepth 4096 in
theorem app_yes {nb : Nat} {V : VV} {σ τ : XS} {d f : Nat → Nat} {h : Nat} (H : VolR nb V σ τ d f h) {i c : Nat} (hi : vkd V i = 1) (hc : c < 401000) (fo be se : Int32) (x3 x4 : Int32) (hf : alln (prt (vsz V i + c)) ≤ nfb V + alln (vmn V i)) (w : Nat → Nat)
    (hv : ∀ τ', τ'.2.1 2 = τ.2.1 2 → ∀ k b g K, k < c → b < 512 → fMX12_append_0_143 nb K (nI i) (nI c) x3 x4 (nI (vsz V i)) (nI k) (nI (vsz V i + k)) (nI b) (XD τ' g) = K (nI i, nI c, x3, x4, nI (vsz V i), nI b, nI (k + 1), XD τ' (wr1 g (1024 * b + (vsz V i + k) % 1024) (w k)))) :
    ∃ τ' f', RM nb (setR (setA (addN V i (prt (vsz V i + c) - vmn V i)) 4 i (vsz V i + c)) 15 (pd (vdat (addN V i (prt (vsz V i + c) - vmn V i))) (vbl (addN V i (prt (vsz V i + c) - vmn V i)) i) (vsz V i) w c)) τ' f' ∧ τ'.1 = (stS (fnd (stS τ 0 (nI 0)) fo be se) 3 (nI 0)).1 ∧ (∀ k, (k = 1 ∨ k = 2 ∨ k = 3 ∨ k = 17) → τ'.2.1 k = τ.2.1 k) ∧
    fMX12_append_0 nb (nI i) (nI c) x3 x4 (XD (fnd (stS τ 0 (nI 0)) fo be se) f) = some (nI (vsz V i + c), XD τ' f') := by
  obtain ⟨G, hd, D, S, m1, h1, hkd, hf', R, h9, sh⟩ := H
  have hl : live V i := .inl hi
  have hin := G.ino hl
  have hsz := G.sz i
  have hmn := mn_lt G.1.1 G.1.2.2 hl
  have hg := G_lt G.1.1
  have R1 : RM nb V (fnd (stS τ 0 (nI 0)) fo be se) f := RM_fnd (RM_S (by omega) R)
  have x7 : (XD (fnd (stS τ 0 (nI 0)) fo be se) f).2.1 7 i = nI (vsz V i) := by rw [XD_k _ _ _ _ (by omega)]; exact (R.2.2.1 i hin.2.2).2.1
  have x9 : (XD (fnd (stS τ 0 (nI 0)) fo be se) f).2.1 9 i = nI (vmn V i) := by rw [XD_k _ _ _ _ (by omega)]; exact (R.2.2.1 i hin.2.2).2.2.2.1
  have pt := parts_M nb (XD (fnd (stS τ 0 (nI 0)) fo be se) f) (x := vsz V i + c) (y := 1024) (by omega) (by omega)
  have hpp : (vsz V i + c + 1024 - 1) / 1024 = prt (vsz V i + c) := by unfold prt; rfl
  rw [hpp] at pt
  have hpb : prt (vsz V i + c) < 3000 := by unfold prt; omega
  have a1 := all_M nb (XD (fnd (stS τ 0 (nI 0)) fo be se) f) (n := prt (vsz V i + c)) (by omega)
  have a2 := all_M nb (XD (fnd (stS τ 0 (nI 0)) fo be se) f) (n := vmn V i) (by omega)
  have fb := freeB_M G.1.1 R1
  have hb := alln_big (prt (vsz V i + c))
  have hle : vmn V i ≤ prt (vsz V i + c) := by rw [← (G.2.2.2.1 i hl).2]; unfold prt; omega
  have hm := alln_mono hle
  have hnf := nfb_lt G.1.1
  have f0 := fails_0 nb (show (XD (fnd (stS τ 0 (nI 0)) fo be se) f).1 0 = nI 0 from tF _ _ _ _) (nI 4)
  obtain ⟨τ', f', R2, s1, s2, s3⟩ := app57_M G.1 R1 hin.1 hin.2.1 hl (G.2.2.2.1 i hl).1 (G.2.2.2.1 i hl).2 (by omega) hf w x3 x4 hv
  refine ⟨τ', f', R2, s1, s2, ?_⟩
  simp (disch := omega) only [fMX12_append_0, fMX12_append_0_0, fMX12_append_0_48, lit, litN, nI_ltI', nI_leI', nI_eqI, nI_clampI, n_or, if_neg, x7, nI_add, pt, obs, a1, x9, a2, fb, nI_sub, if_pos, f0, if_true]
  exact s3

set_option maxRecDepth 4096 in
theorem grw_16 {nb : Nat} (h5 : nb ≤ 512) {V : VV} {σ τ : XS} {d f : Nat → Nat} {h : Nat} (I : INV nb σ τ) (H : VolR nb V σ τ d f h) {i c a k : Nat} {be : Int32} (hi : vkd V i = 1) (hc : c < 401000) {ρ : XS} (hx : keepX σ ρ) (x3 x4 : Int32) (w : Nat → Nat)
    (hvX : ∀ k d, k < c → fXX8_valueAt_16 nb (nI k) (XD ρ d) = some (nI (w k), XD ρ d))
    (hvM : ∀ τ', τ'.2.1 2 = τ.2.1 2 → ∀ k b g K, k < c → b < 512 → fMX12_append_0_143 nb K (nI i) (nI c) x3 x4 (nI (vsz V i)) (nI k) (nI (vsz V i + k)) (nI b) (XD τ' g) = K (nI i, nI c, x3, x4, nI (vsz V i), nI b, nI (k + 1), XD τ' (wr1 g (1024 * b + (vsz V i + k) % 1024) (w k)))) :
    (∃ n d' τ', fXX4_costOf_6 nb (nI i) (nI c) (XD ρ d) = some (nI n, XD ρ d) ∧ fXX0_needBlocks_0 nb (nI n) (XD ρ d) = some (0, XD ρ d) ∧ fXX4_append_6_16 nb (nI i) (nI c) (XD ρ d) = some (nI (vsz V i + c), XD ρ d') ∧ fMX12_append_0 nb (nI i) (nI c) x3 x4 (XD (fnd (stS τ 0 (nI 0)) (nI a) be (nI k)) f) = some (nI (vsz V i + c), τ') ∧ INV nb (XD ρ d') τ' ∧ τ'.1 0 = nI 0) ∨
    (∃ n, fXX4_costOf_6 nb (nI i) (nI c) (XD ρ d) = some (nI n, XD ρ d) ∧ fXX0_needBlocks_0 nb (nI n) (XD ρ d) = some (4, XD ρ d) ∧ fMX12_append_0 nb (nI i) (nI c) x3 x4 (XD (fnd (stS τ 0 (nI 0)) (nI a) be (nI k)) f) = some (nI 0, XD (fnd (stS τ 0 (nI 4)) (nI a) be (nI k)) f)) := by
  have H0 := H
  obtain ⟨G, hd, D, S, m1, h1, hkd, hf, R, h9, sh⟩ := H
  have hl : live V i := .inl hi
  have hin := G.ino hl
  have hsz := G.sz i
  have S1 := Sc_keep hx S
  have co := costOf_X G.1.1 S1 D hin.1 hin.2.1 hl (c := c) (by omega) (by omega)
  have hz := (G.2.2.2.1 i hl).2
  rw [hz] at co
  have hpb : prt (vsz V i + c) < 3000 := by unfold prt; omega
  have hb := alln_big (prt (vsz V i + c))
  have nB := needB_X G D S1 (n := alln (prt (vsz V i + c)) - alln (vmn V i)) (by omega)
  by_cases e : alln (prt (vsz V i + c)) ≤ nfb V + alln (vmn V i)
  · left
    rw [if_pos (by omega)] at nB
    obtain ⟨d', D', ap⟩ := append_16 G.1 hin.1 hin.2.1 hl (G.2.2.2.1 i hl).1 hz (by omega) e w S1 d D hvX
    obtain ⟨τ', f', R2, s1, s2, s3⟩ := app_yes H0 hi hc (nI a) be (nI k) x3 x4 e w hvM
    have G2 := app_Good G hi (by omega) e w
    have hle : vmn V i ≤ prt (vsz V i + c) := by rw [← hz]; unfold prt; omega
    obtain ⟨A1, P1, m1', f1, E1⟩ := addN_S G.1 hin.1 hin.2.1 hl (G.2.2.2.1 i hl).1 (prt (vsz V i + c) - vmn V i) (by rw [show vmn V i + (prt (vsz V i + c) - vmn V i) = prt (vsz V i + c) by omega]; exact e)
    refine ⟨_, d', XD τ' f', co, nB, ap, s3, INV_wr I H0 hx G2 D' E1.1 ?_ R2 (fun k hk => ?_) ?_ (fun k hk => s2 k (by omega)), ?_⟩
    · show vkd (addN V i (prt (vsz V i + c) - vmn V i)) h = 2
      rw [E1.2.1]; exact hkd
    · rw [s1, stS_k _ _ _ (by omega), fnd_k _ _ _ _ (by omega) (by omega) (by omega), stS_k _ _ _ (by omega)]
    · rw [s1]; exact stS_e _ 3 _
    · show τ'.1 0 = nI 0
      rw [s1]; exact stS_e τ 0 _
  · right
    rw [if_neg (by omega)] at nB
    exact ⟨_, co, nB, app_no H0 hi hc (nI a) be (nI k) x3 x4 e⟩

set_option maxRecDepth 4096 in
theorem grw_19 {nb : Nat} (h5 : nb ≤ 512) {V : VV} {σ τ : XS} {d f : Nat → Nat} {h : Nat} (I : INV nb σ τ) (H : VolR nb V σ τ d f h) {i c a k : Nat} {be : Int32} (hi : vkd V i = 1) (hc : c < 401000) {ρ : XS} (hx : keepX σ ρ) (x3 x4 : Int32) (sd : Int32) (w : Nat → Nat)
    (hvX : ∀ k d, k < c → fXX11_valueAt_19 nb sd (nI k) (XD ρ d) = some (nI (w k), XD ρ d))
    (hvM : ∀ τ', τ'.2.1 2 = τ.2.1 2 → ∀ k b g K, k < c → b < 512 → fMX12_append_0_143 nb K (nI i) (nI c) x3 x4 (nI (vsz V i)) (nI k) (nI (vsz V i + k)) (nI b) (XD τ' g) = K (nI i, nI c, x3, x4, nI (vsz V i), nI b, nI (k + 1), XD τ' (wr1 g (1024 * b + (vsz V i + k) % 1024) (w k)))) :
    (∃ n d' τ', fXX4_costOf_6 nb (nI i) (nI c) (XD ρ d) = some (nI n, XD ρ d) ∧ fXX0_needBlocks_0 nb (nI n) (XD ρ d) = some (0, XD ρ d) ∧ fXX4_append_6_19 nb sd (nI i) (nI c) (XD ρ d) = some (nI (vsz V i + c), XD ρ d') ∧ fMX12_append_0 nb (nI i) (nI c) x3 x4 (XD (fnd (stS τ 0 (nI 0)) (nI a) be (nI k)) f) = some (nI (vsz V i + c), τ') ∧ INV nb (XD ρ d') τ' ∧ τ'.1 0 = nI 0) ∨
    (∃ n, fXX4_costOf_6 nb (nI i) (nI c) (XD ρ d) = some (nI n, XD ρ d) ∧ fXX0_needBlocks_0 nb (nI n) (XD ρ d) = some (4, XD ρ d) ∧ fMX12_append_0 nb (nI i) (nI c) x3 x4 (XD (fnd (stS τ 0 (nI 0)) (nI a) be (nI k)) f) = some (nI 0, XD (fnd (stS τ 0 (nI 4)) (nI a) be (nI k)) f)) := by
  have H0 := H
  obtain ⟨G, hd, D, S, m1, h1, hkd, hf, R, h9, sh⟩ := H
  have hl : live V i := .inl hi
  have hin := G.ino hl
  have hsz := G.sz i
  have S1 := Sc_keep hx S
  have co := costOf_X G.1.1 S1 D hin.1 hin.2.1 hl (c := c) (by omega) (by omega)
  have hz := (G.2.2.2.1 i hl).2
  rw [hz] at co
  have hpb : prt (vsz V i + c) < 3000 := by unfold prt; omega
  have hb := alln_big (prt (vsz V i + c))
  have nB := needB_X G D S1 (n := alln (prt (vsz V i + c)) - alln (vmn V i)) (by omega)
  by_cases e : alln (prt (vsz V i + c)) ≤ nfb V + alln (vmn V i)
  · left
    rw [if_pos (by omega)] at nB
    obtain ⟨d', D', ap⟩ := append_19 G.1 hin.1 hin.2.1 hl (G.2.2.2.1 i hl).1 hz (by omega) e w sd S1 d D hvX
    obtain ⟨τ', f', R2, s1, s2, s3⟩ := app_yes H0 hi hc (nI a) be (nI k) x3 x4 e w hvM
    have G2 := app_Good G hi (by omega) e w
    have hle : vmn V i ≤ prt (vsz V i + c) := by rw [← hz]; unfold prt; omega
    obtain ⟨A1, P1, m1', f1, E1⟩ := addN_S G.1 hin.1 hin.2.1 hl (G.2.2.2.1 i hl).1 (prt (vsz V i + c) - vmn V i) (by rw [show vmn V i + (prt (vsz V i + c) - vmn V i) = prt (vsz V i + c) by omega]; exact e)
    refine ⟨_, d', XD τ' f', co, nB, ap, s3, INV_wr I H0 hx G2 D' E1.1 ?_ R2 (fun k hk => ?_) ?_ (fun k hk => s2 k (by omega)), ?_⟩
    · show vkd (addN V i (prt (vsz V i + c) - vmn V i)) h = 2
      rw [E1.2.1]; exact hkd
    · rw [s1, stS_k _ _ _ (by omega), fnd_k _ _ _ _ (by omega) (by omega) (by omega), stS_k _ _ _ (by omega)]
    · rw [s1]; exact stS_e _ 3 _
    · show τ'.1 0 = nI 0
      rw [s1]; exact stS_e τ 0 _
  · right
    rw [if_neg (by omega)] at nB
    exact ⟨_, co, nB, app_no H0 hi hc (nI a) be (nI k) x3 x4 e⟩

set_option maxRecDepth 4096 in
theorem p_write (nb : Nat) (h5 : nb ≤ 512) : St_write nb (INV nb) := by
  intro σ τ x0 I
  obtain ⟨k, hk, rfl⟩ := nI_all x0
  obtain ⟨w, r, t, t1, t2, t3, t4, t5, t6, t7⟩ := I.1
  have I' := INV_drain I
  have dr : fXX8_drain_16 nb σ = some (nI t, stS σ 8 (nI 0)) := by simp only [fXX8_drain_16, fXX8_drain_16_0, t2, lit, litN]
  rcases I.2.2 with ⟨h0, h2, hd, f, hf⟩ | ⟨V, d, f, h, H⟩
  · have ih := itemHere_X0 (nb := nb) (σ := stS σ 8 (nI 0)) h0 (nI k)
    have nf := noFile_N (no_M0 (nb := nb) (τ := stS τ 1 (nI 0)) h2 (nI k)) (nI 0)
    refine ⟨(1, nI 0, stS σ 8 (nI 0)), (nI 0, stS (stS τ 1 (nI 0)) 0 (nI 1)), ?_, ?_, nmR I' h0 h2 hd hf _, .inr (.inl ⟨rfl, stS_e _ _ _⟩)⟩
    · simp only [fXX0_write_0, fXX0_write_0_0, dr, obs, ih, show ¬ (1 : Nat) = 0 by omega, if_false, lit, litN]
    · simp only [fMX12_write_0, fMX12_write_0_0, nf, obs, lit, litN, nI10, if_false]
  · have H' := VolR_drain H
    have H0 := H'
    obtain ⟨G, hd, D, S, m1, h1, hkd, hf, R, h9, sh⟩ := H'
    rcases itemHere_X H0 hk with ⟨q, a, ρ, k1, k2, k3, k4, k5, k6⟩ | ⟨k5, ρ, k1, k6⟩
    · rcases no_M H0 hk with ⟨a', be, n1, n2, n3⟩ | ⟨n1, _⟩
      · obtain rfl : a = a' := by rw [k5] at n1; injection n1
        obtain ⟨E, a1, a2, a3, a4, a5, a6⟩ := itmF G hkd k5
        have S1 := Sc_keep k1 S
        have fa := fileAt_X h5 G D S1 k2 hkd k4 E
        have nf := noFile_M h5 H0 k5 n3 0 (by omega)
        have s10 : ∀ ρ' : XS, (XD (fnd ρ' (nI a) be (nI k)) f).1 10 = nI a := fun _ => rfl
        have fo := four_F h5 R a1
        by_cases ck : vkd V (rd4 (vdat V) a) = 1
        · rw [if_neg (by omega)] at fa
          rw [if_pos ⟨ck, rfl⟩] at nf
          have T1 : TP (fun k => w k) ρ := fun j hj => by rw [k1.2.1 6 (by omega)]; exact t4 j hj
          have hval : ∀ k d, k < t → fXX8_valueAt_16 nb (nI k) (XD ρ d) = some (nI (w k % 256), XD ρ d) := fun k d hk => valueAt_X nb d T1 (by omega)
          have hsz := G.sz (rd4 (vdat V) a)
          have hvm : ∀ τ', τ'.2.1 2 = (stS τ 1 (nI 0)).2.1 2 → ∀ k b g K, k < t → b < 512 → fMX12_append_0_143 nb K (nI (rd4 (vdat V) a)) (nI t) (nI 1) (nI 0) (nI (vsz V (rd4 (vdat V) a))) (nI k) (nI (vsz V (rd4 (vdat V) a) + k)) (nI b) (XD τ' g) = K (nI (rd4 (vdat V) a), nI t, nI 1, nI 0, nI (vsz V (rd4 (vdat V) a)), nI b, nI (k + 1), XD τ' (wr1 g (1024 * b + (vsz V (rd4 (vdat V) a) + k) % 1024) (w k % 256))) := fun τ' e k b g K hk hb => by
            have hw : τ'.2.1 2 k = sb (w k % 256) := by rw [e, sb_mod]; exact t5 k (by omega)
            exact app143t_M g (w := fun k => w k % 256) (nI 0) hw (by omega) hb (by omega) K
          rcases grw_16 h5 I' H0 (a := a) (be := be) (k := k) ck (c := t) (by omega) k1 (nI 1) (nI 0) (fun k => w k % 256) hval hvm with ⟨n, d', τ', g1, g2, g3, g4, g5, g6⟩ | ⟨n, g1, g2, g3⟩
          · refine ⟨(0, nI (vsz V (rd4 (vdat V) a) + t), XD ρ d'), (nI (vsz V (rd4 (vdat V) a) + t), τ'), ?_, ?_, g5, .inl ⟨rfl, g6, rfl⟩⟩
            · simp only [fXX0_write_0, fXX0_write_0_0, dr, obs, k6, if_true, fa, g1, g2, g3]
            · simp only [fMX12_write_0, fMX12_write_0_0, nf, obs, lit, litN, if_true, s10, fo, t3, g4]
          · refine ⟨(4, nI 0, XD ρ d), (nI 0, XD (fnd (stS (stS τ 1 (nI 0)) 0 (nI 4)) (nI a) be (nI k)) f), ?_, ?_, INV_ro I' H0 k1 (kF _ _ _ _), .inr (.inr (.inr (.inr ⟨rfl, tF _ _ _ _⟩)))⟩
            · simp only [fXX0_write_0, fXX0_write_0_0, dr, obs, k6, if_true, fa, g1, g2, show ¬ (4 : Nat) = 0 by omega, if_false, lit, litN]
            · simp only [fMX12_write_0, fMX12_write_0_0, nf, obs, lit, litN, if_true, s10, fo, t3, g3]
        · have ck2 : vkd V (rd4 (vdat V) a) = 2 := by have := E.2.2.1; unfold live at this; omega
          rw [if_pos ck2] at fa
          rw [if_neg (fun e => ck e.1)] at nf
          refine ⟨(3, nI 0, XD ρ d), (nI 0, XD (fnd (stS (stS τ 1 (nI 0)) 0 (nI 3)) (nI a) be (nI k)) f), ?_, ?_, INV_ro I' H0 k1 (kF _ _ _ _), .inr (.inr (.inr (.inl ⟨rfl, tF _ _ _ _⟩)))⟩
          · simp only [fXX0_write_0, fXX0_write_0_0, dr, obs, k6, if_true, fa, show ¬ (3 : Nat) = 0 by omega, if_false, lit, litN]
          · simp only [fMX12_write_0, fMX12_write_0_0, nf, obs, lit, litN, nI10, if_false]
      · rw [k5] at n1; cases n1
    · rcases no_M H0 hk with ⟨a', be, n1, n2, n3⟩ | ⟨n1, fo, be, se, n3⟩
      · rw [k5] at n1; cases n1
      · have nf := noFile_N n3 (nI 0)
        refine ⟨(2, nI 0, XD ρ d), (nI 0, XD (fnd (stS (stS τ 1 (nI 0)) 0 (nI 2)) fo be se) f), ?_, ?_, INV_ro I' H0 k1 (kF _ _ _ _), .inr (.inr (.inl ⟨rfl, tF _ _ _ _⟩))⟩
        · simp only [fXX0_write_0, fXX0_write_0_0, dr, obs, k6, show ¬ (2 : Nat) = 0 by omega, if_false, lit, litN]
        · simp only [fMX12_write_0, fMX12_write_0_0, nf, obs, lit, litN, nI10, if_false]
set_option maxRecDepth 4096 in
theorem patt_X {nb : Nat} {ρ : XS} (d : Nat → Nat) {k : Nat} (sd : Nat) (hk : k < 1000000) : fXX11_valueAt_19 nb (nI sd) (nI k) (XD ρ d) = some (nI ((sd + k * k + k / 256) % 256), XD ρ d) := by
  have e8 : nI k >>> (nI 8 &&& nI 31) = nI (k / 256) := by rw [nI_sh31 (by omega), nI_shr (by omega) (by omega)]
  have e255 : nI (sd + k * k + k / 256) &&& nI 255 = nI ((sd + k * k + k / 256) % 256) := by rw [nI_and]; congr 1; exact Nat.and_two_pow_sub_one_eq_mod _ 8
  simp only [fXX11_valueAt_19, fXX11_valueAt_19_0, lit, litN, nI_mul, nI_add, e8, e255]
set_option maxRecDepth 4096 in
theorem p_grow (nb : Nat) (h5 : nb ≤ 512) : St_grow nb (INV nb) := by
  intro σ τ x0 x1 x2 I
  obtain ⟨k, hk, rfl⟩ := nI_all x0
  obtain ⟨c, hc, rfl⟩ := nI_all x1
  obtain ⟨sd, hsd, rfl⟩ := nI_all x2
  have gM : ∃ g, (g = 0 ∧ c ≤ 400000 ∨ g = 1 ∧ ¬ c ≤ 400000) ∧ fMX12_grow_0 nb (nI k) (nI c) (nI sd) τ = fMX12_grow_0_17 nb (nI c) (nI sd) (nI g) (nI k) τ := by
    by_cases z : c < 2147483648
    · by_cases z2 : c ≤ 400000
      · refine ⟨0, .inl ⟨rfl, z2⟩, ?_⟩
        simp (disch := omega) only [fMX12_grow_0, fMX12_grow_0_0, lit, litN, nI_ltI', nI_leI', nI_eqI, nI_clampI, if_neg, if_pos]
      · refine ⟨1, .inr ⟨rfl, z2⟩, ?_⟩
        simp (disch := omega) only [fMX12_grow_0, fMX12_grow_0_0, fMX12_grow_0_12, lit, litN, nI_ltI', nI_leI', nI_eqI, nI_clampI, if_neg]
    · have hneg := nI_neg (by omega) hc
      refine ⟨1, .inr ⟨rfl, by omega⟩, ?_⟩
      simp only [fMX12_grow_0, fMX12_grow_0_0, fMX12_grow_0_12, lit, litN]
      rw [if_pos hneg]
  obtain ⟨g, hg, gM⟩ := gM
  have hg01 : g = 0 ∨ g = 1 := by omega
  rcases I.2.2 with ⟨h0, h2, hd, f, hf⟩ | ⟨V, d, f, h, H⟩
  · have ih := itemHere_X0 (nb := nb) h0 (nI k)
    have nf := noFile_N (no_M0 (nb := nb) h2 (nI k)) (nI g)
    refine ⟨(1, nI 0, σ), (nI 0, stS τ 0 (nI 1)), ?_, ?_, nmR I h0 h2 hd hf _, .inr (.inl ⟨rfl, stS_e _ _ _⟩)⟩
    · simp only [fXX0_grow_0, fXX0_grow_0_0, obs, ih, show ¬ (1 : Nat) = 0 by omega, if_false, lit, litN]
    · rw [gM]; simp only [fMX12_grow_0_17, nf, obs, lit, litN, nI10, if_false]
  · have H0 := H
    obtain ⟨G, hd, D, S, m1, h1, hkd, hf, R, h9, sh⟩ := H
    rcases itemHere_X H0 hk with ⟨q, a, ρ, k1, k2, k3, k4, k5, k6⟩ | ⟨k5, ρ, k1, k6⟩
    · rcases no_M H0 hk with ⟨a', be, n1, n2, n3⟩ | ⟨n1, _⟩
      · obtain rfl : a = a' := by rw [k5] at n1; injection n1
        obtain ⟨E, a1, a2, a3, a4, a5, a6⟩ := itmF G hkd k5
        have S1 := Sc_keep k1 S
        have fa := fileAt_X h5 G D S1 k2 hkd k4 E
        have nf := noFile_M h5 H0 k5 n3 g hg01
        have s10 : ∀ ρ' : XS, (XD (fnd ρ' (nI a) be (nI k)) f).1 10 = nI a := fun _ => rfl
        have fo := four_F h5 R a1
        have bad : fXX0_grow_0 nb (nI k) (nI c) (nI sd) σ = some (3, nI 0, XD ρ d) → fMX12_noFile_0 nb (nI k) (nI g) τ = some (nI 1, XD (fnd (stS τ 0 (nI 3)) (nI a) be (nI k)) f) → ∃ (o1 : (Nat × Int32 × XS)) (o2 : (Int32 × XS)), fXX0_grow_0 nb (nI k) (nI c) (nI sd) σ = some o1 ∧ fMX12_grow_0 nb (nI k) (nI c) (nI sd) τ = some o2 ∧ INV nb o1.2.2 o2.2 ∧ ((o1.1 = 0 ∧ o2.2.1 0 = 0 ∧ o1.2.1 = o2.1) ∨ (o1.1 = 1 ∧ o2.2.1 0 = 1) ∨ (o1.1 = 2 ∧ o2.2.1 0 = 2) ∨ (o1.1 = 3 ∧ o2.2.1 0 = 3) ∨ (o1.1 = 4 ∧ o2.2.1 0 = 4)) := fun e1 e2 =>
          ⟨(3, nI 0, XD ρ d), (nI 0, XD (fnd (stS τ 0 (nI 3)) (nI a) be (nI k)) f), e1, by rw [gM]; simp only [fMX12_grow_0_17, e2, obs, lit, litN, nI10, if_false], INV_ro I H0 k1 (kF _ _ _ _), .inr (.inr (.inr (.inl ⟨rfl, tF _ _ _ _⟩)))⟩
        by_cases ck : vkd V (rd4 (vdat V) a) = 1
        · rw [if_neg (by omega)] at fa
          rcases hg with ⟨rfl, c4⟩ | ⟨rfl, c4⟩
          · rw [if_pos ⟨ck, rfl⟩] at nf
            have hsz := G.sz (rd4 (vdat V) a)
            rcases grw_19 h5 I H0 (a := a) (be := be) (k := k) ck (c := c) (by omega) k1 (nI 0) (nI sd) (nI sd) (fun k => (sd + k * k + k / 256) % 256) (fun k d hk => patt_X d sd (by omega)) (fun τ' _ k b g K hk hb => app143p_M g sd (by omega) hb (by omega) K) with ⟨n, d', τ', g1, g2, g3, g4, g5, g6⟩ | ⟨n, g1, g2, g3⟩
            · refine ⟨(0, nI (vsz V (rd4 (vdat V) a) + c), XD ρ d'), (nI (vsz V (rd4 (vdat V) a) + c), τ'), ?_, ?_, g5, .inl ⟨rfl, g6, rfl⟩⟩
              · simp (disch := omega) only [fXX0_grow_0, fXX0_grow_0_0, obs, k6, if_true, fa, lit, litN, nI_ltI', nI_leI', nI_eqI, nI_clampI, if_neg, if_pos, g1, g2, g3]
              · rw [gM]; simp only [fMX12_grow_0_17, nf, obs, lit, litN, if_true, s10, fo, g4]
            · refine ⟨(4, nI 0, XD ρ d), (nI 0, XD (fnd (stS τ 0 (nI 4)) (nI a) be (nI k)) f), ?_, ?_, INV_ro I H0 k1 (kF _ _ _ _), .inr (.inr (.inr (.inr ⟨rfl, tF _ _ _ _⟩)))⟩
              · simp (disch := omega) only [fXX0_grow_0, fXX0_grow_0_0, obs, k6, if_true, fa, lit, litN, nI_ltI', nI_leI', nI_eqI, nI_clampI, if_neg, if_pos, g1, g2]
              · rw [gM]; simp only [fMX12_grow_0_17, nf, obs, lit, litN, if_true, s10, fo, g3]
          · rw [if_neg (fun e => by omega)] at nf
            refine bad ?_ nf
            by_cases z : c < 2147483648
            · simp (disch := omega) only [fXX0_grow_0, fXX0_grow_0_0, fXX0_grow_0_21, obs, k6, if_true, fa, lit, litN, nI_ltI', nI_leI', nI_eqI, nI_clampI, if_neg]
            · have hneg := nI_neg (by omega) hc
              simp only [fXX0_grow_0, fXX0_grow_0_0, fXX0_grow_0_21, obs, k6, if_true, fa, lit, litN]
              rw [if_pos hneg]
        · have ck2 : vkd V (rd4 (vdat V) a) = 2 := by have := E.2.2.1; unfold live at this; omega
          rw [if_pos ck2] at fa
          rw [if_neg (fun e => ck e.1)] at nf
          refine bad ?_ nf
          simp only [fXX0_grow_0, fXX0_grow_0_0, obs, k6, if_true, fa, show ¬ (3 : Nat) = 0 by omega, if_false, lit, litN]
      · rw [k5] at n1; cases n1
    · rcases no_M H0 hk with ⟨a', be, n1, n2, n3⟩ | ⟨n1, fo, be, se, n3⟩
      · rw [k5] at n1; cases n1
      · have nf := noFile_N n3 (nI g)
        refine ⟨(2, nI 0, XD ρ d), (nI 0, XD (fnd (stS τ 0 (nI 2)) fo be se) f), ?_, ?_, INV_ro I H0 k1 (kF _ _ _ _), .inr (.inr (.inl ⟨rfl, tF _ _ _ _⟩))⟩
        · simp only [fXX0_grow_0, fXX0_grow_0_0, obs, k6, show ¬ (2 : Nat) = 0 by omega, if_false, lit, litN]
        · rw [gM]; simp only [fMX12_grow_0_17, nf, obs, lit, litN, nI10, if_false]
