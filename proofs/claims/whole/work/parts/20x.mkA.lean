set_option maxRecDepth 4096 in
theorem wrN_o {f : Nat → Nat} {a n v x : Nat} (h : x < a ∨ a + n ≤ x) : wrN f a n v x = f x := if_neg (by omega)
set_option maxRecDepth 4096 in
theorem tail {nb : Nat} (h5 : nb ≤ 512) {V C : VV} (G : Good nb V) {h e i n t ln : Nat} {w : Nat → Nat} (hk : vkd V h = 2) (hi1 : 12 ≤ i) (hi2 : i ≤ vQ V * vG V) (hi0 : vkd V i = 0) (hn : nmOK w n) (hnm : ∀ a ∈ itm (vdat V) (fl V h), ¬ nmEq (vdat V) a w n) (ht : t = 1 ∨ t = 2) (T : Stg nb V C h e i n t w ln) (hfb : t = 2 → 1 ≤ nfb C)
    {ρ s : XS} {d : Nat → Nat} (D : DX nb C d) (S : Sc V ρ) (r1 : ρ.1 1 = nI h) (hfe : fXX5_fillEntry_7_16 nb (nI e) (nI i) (nI (t - 1)) (nI n) s = some (XD ρ d)) {τ : XS} {f : Nat → Nat} (R : RM nb (fin C i t h e (vdp V h + 1)) τ f) (h9 : τ.1 9 = nI h) :
    ∃ W d' ρ' τ' f' q, Good nb W ∧ W.1 = V.1 ∧ vkd W h = 2 ∧ DX nb W d' ∧ keepX ρ ρ' ∧ fXX0_make_0_179 nb (nI (t - 1)) (nI n) (nI i) (nI e) s = some (0, nI q, XD ρ' d') ∧ RM nb W τ' f' ∧ (∀ k, (k = 0 ∨ k = 1 ∨ k = 9) → τ'.1 k = τ.1 k) ∧ τ'.1 3 = nI 0 ∧ (∀ k, (k = 1 ∨ k = 2 ∨ k = 3) → τ'.2.1 k = τ.2.1 k) ∧ fMX12_make_0_351 nb (nI (t - 1)) (nI i) (nI e) (XD τ f) = some (nI q, XD τ' f') := by
  rcases ht with q | q <;> subst q
  · exact tail_F h5 G hk hi1 hi2 hi0 hn hnm T D S r1 hfe R h9
  · exact tail_D h5 G hk hi1 hi2 hi0 hn hnm T (hfb rfl) D S r1 hfe R h9
set_option maxRecDepth 4096 in
theorem LO_of {nb : Nat} {V W : VV} {L : List Nat} (e0 : vot W = vot V) (ed : vdat W = vdat V) (h : LO nb V L) : LO nb W L := by
  unfold LO Adr at *
  rw [e0, ed]; exact h
set_option maxRecDepth 4096 in
theorem mkA_X {nb : Nat} (h5 : nb ≤ 512) {V : VV} (G : Good nb V) {h y i n t : Nat} {w : Nat → Nat} {l1 l2 : List Nat} (hk : vkd V h = 2) (hfl : fl V h = l1 ++ y :: l2) (hr : rmf (vdat V) n y) (hn1 : 1 ≤ n) (hn : n ≤ 255) (lo : lowI V i) (hi2 : i ≤ vQ V * vG V) (ht : t = 1 ∨ t = 2) {ρ : XS} {d : Nat → Nat} (S : Sc V ρ) (D : DX nb V d) (Rd : RdL (fl V h) ρ) (T : TP w ρ) :
    ∃ C d1 s d', Stg nb V C h (y + usd (vdat V) y) i n t w (rd2 (vdat V) (y + 4) - usd (vdat V) y) ∧ nfb C = nfb V ∧ DX nb C d' ∧ fXX3_take_5 nb (XD ρ d) = some (nI i, XD ρ d1) ∧ fXX5_split_7 nb (nI l1.length) (XD ρ d1) = some (nI (y + usd (vdat V) y), s) ∧ fXX5_fillEntry_7_16 nb (nI (y + usd (vdat V) y)) (nI i) (nI (t - 1)) (nI n) s = some (XD ρ d') ∧
      (y + usd (vdat V) y + spc n ≤ 524288 ∧ Adr nb V y ∧ usd (vdat V) y ≤ rd2 (vdat V) (y + 4)) ∧ ∀ (τ : XS) (f : Nat → Nat), RM nb V τ f → RM nb (fin C i t h (y + usd (vdat V) y) (vdp V h + 1)) (mk3 τ i t h) (Gm y (usd (vdat V) y) (y + usd (vdat V) y) i (rd2 (vdat V) (y + 4) - usd (vdat V) y) n t w f) := by
  have hg := G_lt G.1.1
  obtain ⟨hl, DI, D2, hL⟩ := dirF G hk
  have hi0 := lo.2.1
  obtain ⟨d1, D1, CI, _, tk⟩ := take5_C G.1.1 S D G.2.1 hi2 lo
  obtain ⟨kb, L', kb1, kb2, a1, a2, a3⟩ := stg_A (w := w) (t := t) G hk hi0 CI hfl hr hn1 hn (by omega) (by omega)
  have hym : y ∈ fl V h := by rw [hfl]; simp
  obtain ⟨y1, y2, y3, y4⟩ := hL y hym
  have hsp := spc_ge n
  have ob := G.1.2.2.1 h kb hl kb1
  have eT0 : vot (tkI V i) = vot V := tkI_a V i (by omega) (by omega)
  have eTd : vdat (tkI V i) = vdat V := tkI_a V i (by omega) (by omega)
  have hu : usd (vdat V) y ≤ rd2 (vdat V) (y + 4) := by unfold rmf at hr; omega
  have sp := split_X h5 D1 Rd (LO_of eT0 eTd hL) (p := l1.length) (a := y) (by rw [hfl]; simp) (by rw [eTd]; unfold rmf at hr; omega)
  rw [eTd] at sp
  have hnb : y + usd (vdat V) y + spc n ≤ nb * 1024 := by have := y1.1; omega
  have fe := fillEntry_X (w := w) (wrN (wrN d1 (y + 4) 2 (usd (vdat V) y)) (y + usd (vdat V) y + 4) 2 (rd2 (vdat V) (y + 4) - usd (vdat V) y)) h5 T (a := y + usd (vdat V) y) (i := i) (nl := n) (kd := t) (y := nI (t - 1)) hn hnb ht (by rcases ht with q | q <;> subst q <;> simp)
  have er : rd2 (wrN (wrN d1 (y + 4) 2 (usd (vdat V) y)) (y + usd (vdat V) y + 4) 2 (rd2 (vdat V) (y + 4) - usd (vdat V) y)) (y + usd (vdat V) y + 4) = rd2 (vdat V) (y + 4) - usd (vdat V) y := by
    refine rd2_of (by have := rd2_lt (vdat V) (y + 4); omega) (fun j hj => ?_)
    unfold wrN
    rw [if_pos (by omega), show y + usd (vdat V) y + 4 + j - (y + usd (vdat V) y + 4) = j by omega]
  rw [er, ent_over (g := wrN d1 (y + 4) 2 (usd (vdat V) y)) (fun x hx => wrN_o (by omega))] at fe
  generalize hGm : Gm y (usd (vdat V) y) (y + usd (vdat V) y) i (rd2 (vdat V) (y + 4) - usd (vdat V) y) n t w = GG at *
  have fe' : fXX5_fillEntry_7_16 nb (nI (y + usd (vdat V) y)) (nI i) (nI (t - 1)) (nI n) (XD ρ (wrN (wrN d1 (y + 4) 2 (usd (vdat V) y)) (y + usd (vdat V) y + 4) 2 (rd2 (vdat V) (y + 4) - usd (vdat V) y))) = some (XD ρ (GG d1)) := by rw [fe, ← hGm]; rfl
  have DD := DX_loc D1 (b := vbl V h kb) (G := GG) ob.2.1 (by rw [eT0]; exact ob.2.2.1) a2
  rw [eTd] at DD
  refine ⟨_, d1, _, GG d1, a3, ?_, DX_E h kb L' DD, tk, sp, fe', ⟨by omega, y1, hu⟩, fun τ f R => ?_⟩
  · have := (tkI_Stc G hi0).2
    rw [← this]; rfl
  · have R0 := mk_0 G R (i := i) (t := t) (h := h) (e := y + usd (vdat V) y) (dp := vdp V h + 1) (by omega) hi0
    have R1 := RM_loc R0 (b := vbl V h kb) (G := GG) a2
    have ed : vdat (fin (tkI V i) i t h (y + usd (vdat V) y) (vdp V h + 1)) = vdat V := (fin_o _ _ _ _ _ _ (by omega) (by omega) (by omega) (by omega) (by omega)).trans eTd
    rw [ed] at R1
    refine RM_RE R1 ⟨rfl, rfl, rfl, rfl, rfl, rfl, rfl, rfl, rfl⟩ rfl rfl rfl rfl rfl
set_option maxRecDepth 4096 in
theorem mkA_M {nb : Nat} (h5 : nb ≤ 512) {V : VV} {h y i n t : Nat} {w : Nat → Nat} (hn1 : 1 ≤ n) (hn : n ≤ 255) (hi : i < 2100) (ht : t = 1 ∨ t = 2) {τ : XS} {f : Nat → Nat} (R : RM nb V τ f) (h9 : τ.1 9 = nI h) (h10 : τ.1 10 = nI y) (h12 : τ.1 12 = nI n) (hw : ∀ k, k < n → τ.2.1 17 k = nI (w k % 256)) (he : y + usd (vdat V) y + spc n ≤ 524288) (ha : Adr nb V y) (hu : usd (vdat V) y ≤ rd2 (vdat V) (y + 4)) :
    fMX12_make_0_181 nb (nI (t - 1)) (if usd (vdat V) y = 0 then nI 2 else nI 1) (nI i) (nI t) (nI i) (XD τ f) = fMX12_make_0_351 nb (nI (t - 1)) (nI i) (nI (y + usd (vdat V) y)) (XD (mk3 τ i t h) (Gm y (usd (vdat V) y) (y + usd (vdat V) y) i (rd2 (vdat V) (y + 4) - usd (vdat V) y) n t w f)) := by
  have hsp := spc_ge n
  have cl := clear_M nb (stA τ 6 i (nI t)) f hi
  have tw := two_A h5 R ha (mk3 τ i t h)
  have us := uses_M h5 R ha (mk3 τ i t h)
  have e6 : ∀ g, (XD (mk3 τ i t h) g).2.1 6 i = nI t := fun g => by
    rw [XD_k _ _ _ _ (by omega)]
    unfold mk3
    simp only [stA_at, clrM_at]; simp
  have st := set_M nb (mk3 τ i t h) f (a := y + 4) (n := 2) (usd (vdat V) y) (by omega) (by omega)
  have en : ∀ g, fMX12_entry_0 nb (nI (y + usd (vdat V) y)) (nI i) (nI (rd2 (vdat V) (y + 4) - usd (vdat V) y)) (nI t) (XD (mk3 τ i t h) g) = some (XD (mk3 τ i t h) (entW g (y + usd (vdat V) y) i (rd2 (vdat V) (y + 4) - usd (vdat V) y) n t w)) := fun g => entry_M nb g (by rw [mk3_s]; exact h12) (fun k hk => by rw [mk3_a _ _ _ _ (by omega)]; exact hw k hk) hn he
  generalize hs : rd2 (vdat V) (y + 4) = r at *
  generalize hq : usd (vdat V) y = u at *
  have hc : ∀ g, (XD (clrM (stA τ 6 i (nI t)) i) g).1 9 = nI h := fun g => h9
  have hc2 : ∀ g, (XD (clrM (stA τ 6 i (nI t)) i) g).1 10 = nI y := fun g => h10
  have m3 : stA (stA (clrM (stA τ 6 i (nI t)) i) 8 i (nI t)) 15 i (nI h) = mk3 τ i t h := rfl
  by_cases c0 : u = 0
  · subst c0
    rw [Nat.add_zero] at *
    rw [Gm_0]
    simp only [Nat.add_zero, Nat.sub_zero] at en
    rcases ht with q | q <;> subst q
    · simp (disch := omega) only [fMX12_make_0_181, fMX12_make_0_203, fMX12_make_0_327, lit, litN, nI_ltI', nI_leI', nI_eqI, nI_clampI, n_or, if_neg, if_pos, if_true, if_false, XD_A, cl, obs, hc, hc2, nI_add, Nat.add_zero, Nat.sub_zero, nI_sub]
      rw [m3]
      simp (disch := omega) only [tw, us, obs, lit, litN, nI_sub, nI_add, Nat.add_zero, Nat.sub_zero, e6, en]
    · simp (disch := omega) only [fMX12_make_0_181, fMX12_make_0_203, fMX12_make_0_327, lit, litN, nI_ltI', nI_leI', nI_eqI, nI_clampI, n_or, if_neg, if_pos, if_true, if_false, XD_A, cl, obs, hc, hc2, nI_add, Nat.add_zero, Nat.sub_zero, nI_sub]
      rw [m3]
      simp (disch := omega) only [tw, us, obs, lit, litN, nI_sub, nI_add, Nat.add_zero, Nat.sub_zero, e6, en]
  · rcases ht with q | q <;> subst q
    · simp (disch := omega) only [fMX12_make_0_181, fMX12_make_0_203, fMX12_make_0_327, lit, litN, nI_ltI', nI_leI', nI_eqI, nI_clampI, n_or, if_neg, if_pos, if_true, if_false, XD_A, cl, obs, hc, hc2, nI_add, nI_sub]
      rw [m3]
      simp (disch := omega) only [tw, us, obs, lit, litN, nI_sub, nI_add, st, e6, en]; rfl
    · simp (disch := omega) only [fMX12_make_0_181, fMX12_make_0_203, fMX12_make_0_327, lit, litN, nI_ltI', nI_leI', nI_eqI, nI_clampI, n_or, if_neg, if_pos, if_true, if_false, XD_A, cl, obs, hc, hc2, nI_add, nI_sub]
      rw [m3]
      simp (disch := omega) only [tw, us, obs, lit, litN, nI_sub, nI_add, st, e6, en]; rfl
