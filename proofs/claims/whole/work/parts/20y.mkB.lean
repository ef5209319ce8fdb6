set_option maxRecDepth 4096 in
theorem fin_Stc {nb : Nat} {V : VV} (G : Good nb V) {h e i t dp : Nat} (hk : vkd V h = 2) (hi0 : vkd V i = 0) :
    Stc nb (fin (tkI V i) i t h e dp) ∧ nfb (fin (tkI V i) i t h e dp) = nfb V ∧ Shp (fin (tkI V i) i t h e dp) h ∧ vmn (fin (tkI V i) i t h e dp) h = vmn V h ∧ vsz (fin (tkI V i) i t h e dp) h = vsz V h ∧ RE (tkI V i) (fin (tkI V i) i t h e dp) := by
  have z := G.2.2.2.2.1 i (by unfold live; omega)
  obtain ⟨TS, Tn⟩ := tkI_Stc G hi0
  have fo : ∀ k, k ≠ 3 → k ≠ 5 → k ≠ 11 → k ≠ 17 → k ≠ 18 → (fin (tkI V i) i t h e dp).2.1 k = (tkI V i).2.1 k := fun k a b c d' e' => fin_o _ i t h e dp a b c d' e'
  have fo2 : ∀ k, k ≠ 3 → k ≠ 5 → k ≠ 11 → k ≠ 13 → k ≠ 17 → k ≠ 18 → (fin (tkI V i) i t h e dp).2.1 k = V.2.1 k := fun k a b c c' d' e' => (fin_o _ i t h e dp a b c d' e').trans (tkI_a V i a c')
  have tz : ∀ k, k ≠ 3 → k ≠ 13 → (tkI V i).2.1 k = V.2.1 k := fun k a b => tkI_a V i a b
  obtain ⟨F1, F2⟩ := Stc_kd (W := fin (tkI V i) i t h e dp) (i := i) TS rfl (fo 0 (by omega) (by omega) (by omega) (by omega) (by omega)) (fo 1 (by omega) (by omega) (by omega) (by omega) (by omega)) (fo 2 (by omega) (by omega) (by omega) (by omega) (by omega)) (fo 6 (by omega) (by omega) (by omega) (by omega) (by omega)) (fo 7 (by omega) (by omega) (by omega) (by omega) (by omega)) (fo 9 (by omega) (by omega) (by omega) (by omega) (by omega)) (fo 10 (by omega) (by omega) (by omega) (by omega) (by omega)) rfl rfl (fo 12 (by omega) (by omega) (by omega) (by omega) (by omega)) rfl (fun j hj => by rw [fin_3, if_neg hj]) (by rw [show vmn (tkI V i) = vmn V from tz 6 (by omega) (by omega)]; exact z.2.2.1) (by rw [show vsg (tkI V i) = vsg V from tz 9 (by omega) (by omega)]; exact z.2.2.2.2.2.1) (by rw [show vdb (tkI V i) = vdb V from tz 10 (by omega) (by omega)]; exact z.2.2.2.2.2.2.1) (by rw [show vrn (tkI V i) = vrn V from tz 7 (by omega) (by omega)]; exact z.2.2.2.1)
  refine ⟨F1, F2.trans Tn, ?_, congrFun (fo2 6 (by omega) (by omega) (by omega) (by omega) (by omega) (by omega)) h, congrFun (fo2 4 (by omega) (by omega) (by omega) (by omega) (by omega) (by omega)) h, ⟨rfl, fo 0 (by omega) (by omega) (by omega) (by omega) (by omega), fo 6 (by omega) (by omega) (by omega) (by omega) (by omega), fo 7 (by omega) (by omega) (by omega) (by omega) (by omega), fo 9 (by omega) (by omega) (by omega) (by omega) (by omega), fo 10 (by omega) (by omega) (by omega) (by omega) (by omega), rfl, rfl, fo 15 (by omega) (by omega) (by omega) (by omega) (by omega)⟩⟩
  have := (G.2.2.2.1 h (.inr hk)).1
  unfold Shp at *
  rw [show vmn (fin (tkI V i) i t h e dp) = vmn V from fo2 6 (by omega) (by omega) (by omega) (by omega) (by omega) (by omega), show vsg (fin (tkI V i) i t h e dp) = vsg V from fo2 9 (by omega) (by omega) (by omega) (by omega) (by omega) (by omega), show vdb (fin (tkI V i) i t h e dp) = vdb V from fo2 10 (by omega) (by omega) (by omega) (by omega) (by omega) (by omega), show vrn (fin (tkI V i) i t h e dp) = vrn V from fo2 7 (by omega) (by omega) (by omega) (by omega) (by omega) (by omega), show vtw (fin (tkI V i) i t h e dp) = vtw V from fo2 8 (by omega) (by omega) (by omega) (by omega) (by omega) (by omega)]; exact this
set_option maxRecDepth 4096 in
theorem mkB_M {nb h i t n b v sz : Nat} {w : Nat → Nat} {τ τ' : XS} {f f' : Nat → Nat} (hi : i < 2100) (hh : h < 2100) (ht : t = 1 ∨ t = 2) (hn : n ≤ 255) (hb : b < 512) (h9 : τ.1 9 = nI h) (k9 : τ'.1 = τ.1) (ga : fMX12_gain_0 nb (nI h) (XD (mk3 τ i t h) f) = some (XD τ' f')) (h7 : τ'.2.1 7 h = nI sz) (hv : v = sz + 1024) (h11 : τ'.2.1 11 h = nI b) (h6 : τ'.2.1 6 i = nI t) (h12 : τ.1 12 = nI n) (hw : ∀ k, k < n → τ'.2.1 17 k = nI (w k % 256)) :
    fMX12_make_0_181 nb (nI (t - 1)) (nI 0) (nI i) (nI t) (nI i) (XD τ f) = fMX12_make_0_351 nb (nI (t - 1)) (nI i) (nI (1024 * b)) (XD (stA τ' 7 h (nI v)) (entW f' (1024 * b) i 1024 n t w)) := by
  have hsp := spc_ge n
  have cl := clear_M nb (stA τ 6 i (nI t)) f hi
  have hc : ∀ g, (XD (clrM (stA τ 6 i (nI t)) i) g).1 9 = nI h := fun g => h9
  have m3 : stA (stA (clrM (stA τ 6 i (nI t)) i) 8 i (nI t)) 15 i (nI h) = mk3 τ i t h := rfl
  have g9 : (XD τ' f').1 9 = nI h := by show τ'.1 9 = _; rw [k9]; exact h9
  have g7 : (XD τ' f').2.1 7 h = nI sz := by rw [XD_k _ _ _ _ (by omega)]; exact h7
  have g11 : (XD (stA τ' 7 h (nI v)) f').2.1 11 h = nI b := by rw [XD_k _ _ _ _ (by omega), stA_k _ _ _ _ (by omega)]; exact h11
  have g6 : (XD (stA τ' 7 h (nI v)) f').2.1 6 i = nI t := by rw [XD_k _ _ _ _ (by omega), stA_k _ _ _ _ (by omega)]; exact h6
  have en := entry_M nb (τ := stA τ' 7 h (nI v)) f' (w := w) (a := 1024 * b) (i := i) (ln := 1024) (nl := n) (kd := t) (by show τ'.1 12 = _; rw [k9]; exact h12) (fun k hk => by rw [stA_k _ _ _ _ (by omega)]; exact hw k hk) hn (by omega)
  subst hv
  rcases ht with q | q <;> subst q
  · simp (disch := omega) only [fMX12_make_0_181, fMX12_make_0_203, lit, litN, nI_ltI', nI_leI', nI_eqI, nI_clampI, n_or, if_neg, if_pos, if_true, if_false, XD_A, cl, obs, hc, nI_add, m3, ga, g9, g7, g11, g6, nI_mul, en]
  · simp (disch := omega) only [fMX12_make_0_181, fMX12_make_0_203, lit, litN, nI_ltI', nI_leI', nI_eqI, nI_clampI, n_or, if_neg, if_pos, if_true, if_false, XD_A, cl, obs, hc, nI_add, m3, ga, g9, g7, g11, g6, nI_mul, en]
set_option maxRecDepth 4096 in
theorem mkB_X {nb : Nat} (h5 : nb ≤ 512) {V : VV} (G : Good nb V) {h i n t : Nat} {w : Nat → Nat} (hk : vkd V h = 2) (hf : cost (vmn V h) ≤ nfb V) (hn1 : 1 ≤ n) (hn : n ≤ 255) (lo : lowI V i) (hi2 : i ≤ vQ V * vG V) (ht : t = 1 ∨ t = 2) {ρ : XS} {d : Nat → Nat} (S : Sc V ρ) (D : DX nb V d) (T : TP w ρ) {τ : XS} {f : Nat → Nat} (R : RM nb V τ f) (h9 : τ.1 9 = nI h) (h12 : τ.1 12 = nI n) (hw : ∀ k, k < n → τ.2.1 17 k = nI (w k % 256)) :
    ∃ C e d1 b d2 s d' τ' f', Stg nb V C h e i n t w 1024 ∧ nfb C + cost (vmn V h) = nfb V ∧ DX nb C d' ∧ fXX3_take_5 nb (XD ρ d) = some (nI i, XD ρ d1) ∧ fXX4_addDirectoryBlock_6 nb (nI h) (XD ρ d1) = some (b, XD ρ d2) ∧ fXX5_open_7 nb b (XD ρ d2) = some (nI e, s) ∧ fXX5_fillEntry_7_16 nb (nI e) (nI i) (nI (t - 1)) (nI n) s = some (XD ρ d') ∧
      RM nb (fin C i t h e (vdp V h + 1)) τ' f' ∧ τ'.1 = τ.1 ∧ (∀ k, (k = 1 ∨ k = 2 ∨ k = 3) → τ'.2.1 k = τ.2.1 k) ∧ fMX12_make_0_181 nb (nI (t - 1)) (nI 0) (nI i) (nI t) (nI i) (XD τ f) = fMX12_make_0_351 nb (nI (t - 1)) (nI i) (nI e) (XD τ' f') := by
  have hg := G_lt G.1.1
  obtain ⟨hl, DI, D2, hL⟩ := dirF G hk
  obtain ⟨in1, in2, in3⟩ := G.ino hl
  have hi0 := lo.2.1
  have hih : h ≠ i := fun q => by rw [q] at hk; omega
  obtain ⟨d1, D1, CI, _, tk⟩ := take5_C G.1.1 S D G.2.1 hi2 lo
  obtain ⟨SB, LB, b1, b2, nB⟩ := stg_B (w := w) (t := t) G hk hi0 CI hf hn1 hn (by omega) (by omega)
  obtain ⟨TS, Tn⟩ := tkI_Stc G hi0
  have eQ : vQ (tkI V i) = vQ V := congrFun (tkI_s V i) 1
  have eG : vG (tkI V i) = vG V := congrFun (tkI_s V i) 2
  have hlT : live (tkI V i) h := by unfold live; rw [tkI_k, if_neg hih]; exact .inr hk
  have mT : vmn (tkI V i) h = vmn V h := congrFun (tkI_a V i (k := 6) (by omega) (by omega)) h
  have zT : vsz (tkI V i) h = vsz V h := congrFun (tkI_a V i (k := 4) (by omega) (by omega)) h
  have PT : Shp (tkI V i) h := by
    have := (G.2.2.2.1 h hl).1
    unfold Shp at *
    rw [show vmn (tkI V i) = vmn V from tkI_a V i (by omega) (by omega), show vsg (tkI V i) = vsg V from tkI_a V i (by omega) (by omega), show vdb (tkI V i) = vdb V from tkI_a V i (by omega) (by omega), show vrn (tkI V i) = vrn V from tkI_a V i (by omega) (by omega), show vtw (tkI V i) = vtw V from tkI_a V i (by omega) (by omega)]; exact this
  obtain ⟨d2, D3, ad⟩ := addDir_X TS in1 (by rw [eQ, eG]; exact in2) hlT PT (by rw [mT, Tn]; exact hf) (by rw [zT, mT]; exact DI.1.2.1) ρ d1 (Sc_of (V := V) (tkI_s V i) S) D1
  rw [mT] at D3 ad
  have op := open_X ρ d2 h5 b1
  have hsp := spc_ge n
  have fe := fillEntry_X (w := w) (wrN d2 (1024 * vbl (addB (tkI V i) h) h (vmn V h) + 4) 2 1024) h5 T (a := 1024 * vbl (addB (tkI V i) h) h (vmn V h)) (i := i) (nl := n) (kd := t) (y := nI (t - 1)) hn (by omega) ht (by rcases ht with q | q <;> subst q <;> simp)
  have er : rd2 (wrN d2 (1024 * vbl (addB (tkI V i) h) h (vmn V h) + 4) 2 1024) (1024 * vbl (addB (tkI V i) h) h (vmn V h) + 4) = 1024 := by
    refine rd2_of (by omega) (fun j hj => ?_)
    unfold wrN
    rw [if_pos (by omega), Nat.add_sub_cancel_left]
  rw [er, ent_over (g := d2) (fun x hx => wrN_o (by omega))] at fe
  have DD := DX_E h (vmn V h) [1024 * vbl (addB (tkI V i) h) h (vmn V h)] (DX_loc D3 (b := vbl (addB (tkI V i) h) h (vmn V h)) (G := fun f => entW f (1024 * vbl (addB (tkI V i) h) h (vmn V h)) i 1024 n t w) b1 b2 LB)
  -- the reference
  obtain ⟨F1, F2, F3, F4, F5, F6⟩ := fin_Stc G (i := i) (t := t) (e := 1024 * vbl (addB (tkI V i) h) h (vmn V h)) (dp := vdp V h + 1) hk hi0
  have R0 := mk_0 G R (i := i) (t := t) (h := h) (e := 1024 * vbl (addB (tkI V i) h) h (vmn V h)) (dp := vdp V h + 1) (by omega) hi0
  have RE1 := RE_addB F6 h
  have K3 : ∀ j, vkd (fin (tkI V i) i t h (1024 * vbl (addB (tkI V i) h) h (vmn V h)) (vdp V h + 1)) j = if j = i then t else (if j = i then 3 else vkd V j) := fun j => by rw [fin_3, tkI_k]
  have E0 : ∀ e dp, vlk (fin (setE (setR (setA (addB (tkI V i) h) 4 h (1024 * (vmn V h + 1))) 15 (entW (vdat (addB (tkI V i) h)) (1024 * vbl (addB (tkI V i) h) h (vmn V h)) i 1024 n t w)) h (vmn V h) [1024 * vbl (addB (tkI V i) h) h (vmn V h)]) i t h e dp) = vlk (fin (addB (tkI V i) h) i t h e dp) := fun e dp => rfl
  obtain ⟨_, _, mT1, _, ET, _, _⟩ := addB_S TS in1 (by rw [eQ, eG]; exact in2) hlT PT (by rw [mT, Tn]; exact hf)
  have lK : live (fin (tkI V i) i t h (1024 * vbl (addB (tkI V i) h) h (vmn V h)) (vdp V h + 1)) h := by unfold live; rw [K3, if_neg hih, if_neg hih]; exact .inr hk
  have eK : (fin (tkI V i) i t h (1024 * vbl (addB (tkI V i) h) h (vmn V h)) (vdp V h + 1)).1 = V.1 := tkI_s V i
  obtain ⟨_, _, m1, _, EK, _, _⟩ := addB_S F1 in1 (by rw [show vQ (fin (tkI V i) i t h (1024 * vbl (addB (tkI V i) h) h (vmn V h)) (vdp V h + 1)) = vQ V from congrFun eK 1, show vG (fin (tkI V i) i t h (1024 * vbl (addB (tkI V i) h) h (vmn V h)) (vdp V h + 1)) = vG V from congrFun eK 2]; exact in2) lK F3 (by rw [F4, F2]; exact hf)
  obtain ⟨τ1, f1, R1, kM, ga⟩ := gain_M F1 R0 in3 lK F3 (by rw [F4, F2]; exact hf)
  rw [F4] at m1
  have q5 := fin_5 (tkI V i) i t h (1024 * vbl (addB (tkI V i) h) h (vmn V h)) (vdp V h + 1)
  have q11 := fin_11 (tkI V i) i t h (1024 * vbl (addB (tkI V i) h) h (vmn V h)) (vdp V h + 1)
  have q4 : vsz (fin (tkI V i) i t h (1024 * vbl (addB (tkI V i) h) h (vmn V h)) (vdp V h + 1)) = vsz (tkI V i) := fin_o _ _ _ _ _ _ (by omega) (by omega) (by omega) (by omega) (by omega)
  have q16 : vtm (fin (tkI V i) i t h (1024 * vbl (addB (tkI V i) h) h (vmn V h)) (vdp V h + 1)) = vtm (tkI V i) := fin_o _ _ _ _ _ _ (by omega) (by omega) (by omega) (by omega) (by omega)
  have q3 := fin_3 (tkI V i) i t h (1024 * vbl (addB (tkI V i) h) h (vmn V h)) (vdp V h + 1)
  generalize hK : fin (tkI V i) i t h (1024 * vbl (addB (tkI V i) h) h (vmn V h)) (vdp V h + 1) = K at *
  generalize hX : addB (tkI V i) h = X at *
  generalize hY : addB K h = Y at *
  obtain ⟨r1', r2', r3', r4', r5', r6', r7', r8', r9'⟩ := RE1
  generalize hb : vbl X h (vmn V h) = b at *
  have lY : live Y h := by unfold live; rw [EK.2.1]; exact lK
  have g11 : τ1.2.1 11 h = nI b := by
    rw [R1.2.2.2.1 h in3 lY (by omega), m1, r7', Nat.add_sub_cancel, hb]
  have g7 : τ1.2.1 7 h = nI (vsz V h) := by rw [(R1.2.2.1 h in3).2.1, EK.2.2.1, F5]
  have g6 : τ1.2.1 6 i = nI t := by rw [(R1.2.2.1 i (by omega)).1, EK.2.1, K3, if_pos rfl]
  have M := mkB_M (w := w) (v := 1024 * (vmn V h + 1)) (by omega) in3 ht hn (by omega) h9 kM.1 ga g7 (by rw [DI.1.2.1]; omega) g11 g6 h12 (fun k hk' => by rw [kM.2.1 17 (by omega), mk3_a _ _ _ _ (by omega)]; exact hw k hk')
  have R2 := RM_loc (RM_sz R1 h (1024 * (vmn V h + 1))) (b := b) (G := fun f => entW f (1024 * b) i 1024 n t w) LB
  refine ⟨_, 1024 * b, d1, nI b, d2, _, _, _, _, SB, nB, DD, tk, ad, op, fe, ?_, ?_, ?_, M⟩
  · refine RM_RE R2 ⟨r1'.symm, ?_, ?_, ?_, ?_, ?_, r7'.symm, r8'.symm, ?_⟩ ?_ ?_ ?_ ?_ ?_
    · exact r2'.symm
    · exact r3'.symm
    · exact r4'.symm
    · exact r5'.symm
    · exact r6'.symm
    · show entW (vdat X) (1024 * b) i 1024 n t w = entW (vdat Y) (1024 * b) i 1024 n t w; rw [r9']
    · funext j
      show vkd (fin X i t h (1024 * b) (vdp V h + 1)) j = vkd Y j
      rw [fin_3, EK.2.1, q3, ET.2.1]
    · show (setA X 4 h (1024 * (vmn V h + 1))).2.1 4 = (setA Y 4 h (1024 * (vmn V h + 1))).2.1 4
      funext j; rw [setA_i, setA_i]
      show (if _ then _ else vsz X j) = (if _ then _ else vsz Y j)
      rw [ET.2.2.1, EK.2.2.1, q4]
    · funext j
      show vlk (fin X i t h (1024 * b) (vdp V h + 1)) j = vlk Y j
      rw [fin_5, EK.2.2.2.1, q5, ET.2.2.2.1]
    · funext j
      show vpar (fin X i t h (1024 * b) (vdp V h + 1)) j = vpar Y j
      rw [fin_11, EK.2.2.2.2.1, q11, ET.2.2.2.2.1]
    · show vtm X = vtm Y
      rw [EK.2.2.2.2.2.2.1, q16, ET.2.2.2.2.2.2.1]
  · exact kM.1
  · intro k hk'
    rw [stA_k _ _ _ _ (by omega), kM.2.1 k (by omega), mk3_a _ _ _ _ (by omega)]
