set_option maxRecDepth 4096 in
theorem num_end {nb : Nat} (h5 : nb ≤ 512) {W : VV} {ρ τ : XS} {d f : Nat → Nat} {h e : Nat} (G : Good nb W) (hk : vkd W h = 2) (D : DX nb W d) (S : Sc W ρ) (r1 : ρ.1 1 = nI h) (R : RM nb W τ f) (h9 : τ.1 9 = nI h) (he : e ∈ itm (vdat W) (fl W h)) :
    ∃ ρ' fo be se q, keepX ρ ρ' ∧ fXX0_make_0_256 nb (nI e) (XD ρ d) = some (0, nI q, XD ρ' d) ∧ fMX12_make_0_374 nb (nI e) (XD τ f) = some (nI q, XD (fnd (stS τ 3 (nI 0)) fo be se) f) := by
  obtain ⟨hl, DI, D2, hL⟩ := dirF G hk
  obtain ⟨in1, in2, in3⟩ := G.ino hl
  obtain ⟨ρ', p1, p2, p3⟩ := read_X G.1 in1 in2 hl (G.2.2.2.1 h hl).1 DI.1 D2.2.1 ρ d S D
  obtain ⟨q, n1, n2, n3⟩ := numberOf_X h5 D p2 hL (fl_2 D2) he
  obtain ⟨q', fo, be, se, m1, m2, m3⟩ := number_M G.1 R in3 h9 hl D2 hL he
  have : q = q' := by
    rcases Nat.lt_trichotomy q q' with c | c | c
    · exact absurd n1 (m2 q c)
    · exact c
    · exact absurd m1 (n2 q' c)
  subst this
  refine ⟨ρ', fo, be, se, q, p1, ?_, m3⟩
  have r1' : (XD ρ d).1 1 = nI h := r1
  simp only [fXX0_make_0_256, r1', p3, obs, n3]
def fin (C : VV) (i t h e dp : Nat) : VV := setA (setA (setA (setA (setA C 3 i t) 5 i t) 11 i h) 17 i e) 18 i dp
set_option maxRecDepth 4096 in
theorem fin_o (C : VV) (i t h e dp : Nat) {k : Nat} (h3 : k ≠ 3) (h5 : k ≠ 5) (h11 : k ≠ 11) (h17 : k ≠ 17) (h18 : k ≠ 18) : (fin C i t h e dp).2.1 k = C.2.1 k := by
  unfold fin; rw [setA_o _ _ _ h18, setA_o _ _ _ h17, setA_o _ _ _ h11, setA_o _ _ _ h5, setA_o _ _ _ h3]
set_option maxRecDepth 4096 in
theorem setA_i (V : VV) (k i v j : Nat) : (setA V k i v).2.1 k j = if j = i then v else V.2.1 k j := by
  by_cases c : j = i
  · rw [if_pos c, c, setA_e]
  · rw [if_neg c, setA_n _ _ _ c]
set_option maxRecDepth 4096 in
theorem fin_3 (C : VV) (i t h e dp j : Nat) : vkd (fin C i t h e dp) j = if j = i then t else vkd C j := by
  show (fin C i t h e dp).2.1 3 j = _
  unfold fin; rw [setA_o _ _ _ (by omega), setA_o _ _ _ (by omega), setA_o _ _ _ (by omega), setA_o _ _ _ (by omega), setA_i]
set_option maxRecDepth 4096 in
theorem fin_5 (C : VV) (i t h e dp j : Nat) : vlk (fin C i t h e dp) j = if j = i then t else vlk C j := by
  show (fin C i t h e dp).2.1 5 j = _
  unfold fin; rw [setA_o _ _ _ (by omega), setA_o _ _ _ (by omega), setA_o _ _ _ (by omega), setA_i, setA_o _ _ _ (by omega)]
set_option maxRecDepth 4096 in
theorem fin_11 (C : VV) (i t h e dp j : Nat) : vpar (fin C i t h e dp) j = if j = i then h else vpar C j := by
  show (fin C i t h e dp).2.1 11 j = _
  unfold fin; rw [setA_o _ _ _ (by omega), setA_o _ _ _ (by omega), setA_i, setA_o _ _ _ (by omega), setA_o _ _ _ (by omega)]
set_option maxRecDepth 4096 in
theorem fin_17 (C : VV) (i t h e dp j : Nat) : vent (fin C i t h e dp) j = if j = i then e else vent C j := by
  show (fin C i t h e dp).2.1 17 j = _
  unfold fin; rw [setA_o _ _ _ (by omega), setA_i, setA_o _ _ _ (by omega), setA_o _ _ _ (by omega), setA_o _ _ _ (by omega)]
set_option maxRecDepth 4096 in
theorem fin_18 (C : VV) (i t h e dp j : Nat) : vdp (fin C i t h e dp) j = if j = i then dp else vdp C j := by
  show (fin C i t h e dp).2.1 18 j = _
  unfold fin; rw [setA_i, setA_o _ _ _ (by omega), setA_o _ _ _ (by omega), setA_o _ _ _ (by omega), setA_o _ _ _ (by omega)]
set_option maxRecDepth 4096 in
theorem DX_img {nb : Nat} {V W : VV} {d : Nat → Nat} (D : DX nb V d) (e : vot W = vot V) (h : ∀ b o, img nb W b o = img nb V b o) : DX nb W d := fun b o hb ho h2 => by rw [h]; exact D b o hb ho (by rw [← e]; exact h2)
set_option maxRecDepth 4096 in
theorem DX_fin {nb : Nat} {C : VV} {i t h e dp : Nat} {d : Nat → Nat} (D : DX nb (setA (setA C 3 i t) 5 i t) d) : DX nb (fin C i t h e dp) d := DX_img D rfl (fun _ _ => rfl)
set_option maxRecDepth 4096 in
theorem CntD_of {nb : Nat} {V W : VV} (B : Bas nb V) (CD : CntD V) {i t : Nat} (e1 : W.1 = V.1) (h1 : 1 ≤ i) (h2 : i ≤ vQ V * vG V) (hi0 : vkd V i = 0) (ek : ∀ j, vkd W j = if j = i then t else vkd V j) (hv : ∀ y x, y < vQ V → x < vQ V → vdc W y x = vdc V y x + if t = 2 ∧ x = (i - 1) / vG V then 1 else 0) : CntD W := by
  obtain ⟨_, _, _, c4, c5⟩ := nfi_chg B e1 h1 h2 (fun c hc => by rw [ek, if_neg hc])
  have hp : pdc V i = 0 := by unfold pdc; rw [if_neg (by omega)]
  have hp2 : pdc W i = if t = 2 then 1 else 0 := by unfold pdc; rw [ek, if_pos rfl]
  have eQ : vQ W = vQ V := congrFun e1 1
  intro y hy x hx
  rw [eQ] at hy hx
  rw [hv y x hy hx, CD y hy x hx]
  by_cases c : x = (i - 1) / vG V
  · rw [c]; simp only [and_true]; omega
  · rw [if_neg (fun q => c q.2), c5 x c]; rfl
-- what the ghost after 'begin' keeps
set_option maxRecDepth 4096 in
theorem fin_C {nb : Nat} {V C : VV} (G : Good nb V) {h e i n t ln : Nat} {w : Nat → Nat} (hk : vkd V h = 2) (hi0 : vkd V i = 0) (T : Stg nb V C h e i n t w ln) (dp : Nat) :
    vkd C i = 3 ∧ (vsz C i = 0 ∧ vlk C i = 0 ∧ vmn C i = 0 ∧ vtw C i = 0 ∧ vsg C i = 0 ∧ vdb C i = 0 ∧ vtm C (3 * i) = 0 ∧ vtm C (3 * i + 1) = 0 ∧ vtm C (3 * i + 2) = 0) ∧ vrn C i = 0 ∧ Stc nb (fin C i t h e dp) ∧ nfb (fin C i t h e dp) = nfb C ∧ Shp (fin C i t h e dp) i ∧ vmn (fin C i t h e dp) i = 0 ∧ vsz (fin C i t h e dp) i = 0 := by
  obtain ⟨s1, s2, s3, s4, ⟨l1, l2, l3, l4, l5, l6⟩, s6, -⟩ := T
  have hih : i ≠ h := fun q => by rw [← q] at hk; omega
  have z := G.2.2.2.2.1 i (by unfold live; omega)
  obtain ⟨k1, k2, k3, k4, k5, k6, k7⟩ := s6 i hih
  have hz : vsz C i = 0 ∧ vlk C i = 0 ∧ vmn C i = 0 ∧ vtw C i = 0 ∧ vsg C i = 0 ∧ vdb C i = 0 ∧ vtm C (3 * i) = 0 ∧ vtm C (3 * i + 1) = 0 ∧ vtm C (3 * i + 2) = 0 := by
    rw [k1, k2, k4, k5, k6, l1, l5]
    exact ⟨z.1, z.2.1, z.2.2.1, z.2.2.2.2.1, z.2.2.2.2.2.1, z.2.2.2.2.2.2.1, z.2.2.2.2.2.2.2⟩
  have hrn : vrn C i = 0 := k3.trans z.2.2.2.1
  have fo : ∀ k, k ≠ 3 → k ≠ 5 → k ≠ 11 → k ≠ 17 → k ≠ 18 → (fin C i t h e dp).2.1 k = C.2.1 k := fun k a b c d' e' => fin_o C i t h e dp a b c d' e'
  obtain ⟨F1, F2⟩ := Stc_kd (W := fin C i t h e dp) (i := i) s1 rfl (fo 0 (by omega) (by omega) (by omega) (by omega) (by omega)) (fo 1 (by omega) (by omega) (by omega) (by omega) (by omega)) (fo 2 (by omega) (by omega) (by omega) (by omega) (by omega)) (fo 6 (by omega) (by omega) (by omega) (by omega) (by omega)) (fo 7 (by omega) (by omega) (by omega) (by omega) (by omega)) (fo 9 (by omega) (by omega) (by omega) (by omega) (by omega)) (fo 10 (by omega) (by omega) (by omega) (by omega) (by omega)) rfl rfl (fo 12 (by omega) (by omega) (by omega) (by omega) (by omega)) rfl (fun j hj => by rw [fin_3, if_neg hj]) hz.2.2.1 hz.2.2.2.2.1 hz.2.2.2.2.2.1 hrn
  have m0 : vmn (fin C i t h e dp) i = 0 := by rw [show vmn (fin C i t h e dp) = vmn C from fo 6 (by omega) (by omega) (by omega) (by omega) (by omega)]; exact hz.2.2.1
  refine ⟨by rw [s4, if_pos rfl], hz, hrn, F1, F2, ?_, m0, ?_⟩
  · unfold Shp
    rw [m0, show vsg (fin C i t h e dp) = vsg C from fo 9 (by omega) (by omega) (by omega) (by omega) (by omega), show vdb (fin C i t h e dp) = vdb C from fo 10 (by omega) (by omega) (by omega) (by omega) (by omega), show vrn (fin C i t h e dp) = vrn C from fo 7 (by omega) (by omega) (by omega) (by omega) (by omega), show vtw (fin C i t h e dp) = vtw C from fo 8 (by omega) (by omega) (by omega) (by omega) (by omega), hz.2.2.2.2.1, hz.2.2.2.2.2.1, hrn, hz.2.2.2.1]
    refine ⟨by omega, by omega, rfl, rfl⟩
  · rw [show vsz (fin C i t h e dp) = vsz C from fo 4 (by omega) (by omega) (by omega) (by omega) (by omega)]; exact hz.1
set_option maxRecDepth 4096 in
theorem tail_F {nb : Nat} (h5 : nb ≤ 512) {V C : VV} (G : Good nb V) {h e i n ln : Nat} {w : Nat → Nat} (hk : vkd V h = 2) (hi1 : 12 ≤ i) (hi2 : i ≤ vQ V * vG V) (hi0 : vkd V i = 0) (hn : nmOK w n) (hnm : ∀ a ∈ itm (vdat V) (fl V h), ¬ nmEq (vdat V) a w n) (T : Stg nb V C h e i n 1 w ln)
    {ρ s : XS} {d : Nat → Nat} (D : DX nb C d) (S : Sc V ρ) (r1 : ρ.1 1 = nI h) (hfe : fXX5_fillEntry_7_16 nb (nI e) (nI i) (nI 0) (nI n) s = some (XD ρ d)) {τ : XS} {f : Nat → Nat} (R : RM nb (fin C i 1 h e (vdp V h + 1)) τ f) (h9 : τ.1 9 = nI h) :
    ∃ W d' ρ' τ' f' q, Good nb W ∧ W.1 = V.1 ∧ vkd W h = 2 ∧ DX nb W d' ∧ keepX ρ ρ' ∧ fXX0_make_0_179 nb (nI 0) (nI n) (nI i) (nI e) s = some (0, nI q, XD ρ' d') ∧ RM nb W τ' f' ∧ (∀ k, (k = 0 ∨ k = 1 ∨ k = 9) → τ'.1 k = τ.1 k) ∧ τ'.1 3 = nI 0 ∧ (∀ k, (k = 1 ∨ k = 2 ∨ k = 3) → τ'.2.1 k = τ.2.1 k) ∧ fMX12_make_0_351 nb (nI 0) (nI i) (nI e) (XD τ f) = some (nI q, XD τ' f') := by
  obtain ⟨c3, cz, cr, F1, F2, F3, F4, F5⟩ := fin_C G hk hi0 T (vdp V h + 1)
  have T0 := T
  obtain ⟨s1, s2, s3, s4, ⟨l1, l2, l3, l4, l5, l6⟩, s6, s7, s8, -⟩ := T
  have hih : i ≠ h := fun q => by rw [← q] at hk; omega
  have eQ : vQ C = vQ V := congrFun s2 1
  have eG : vG C = vG V := congrFun s2 2
  have fo : ∀ k, k ≠ 3 → k ≠ 5 → k ≠ 11 → k ≠ 17 → k ≠ 18 → (fin C i 1 h e (vdp V h + 1)).2.1 k = C.2.1 k := fun k a b c d' e' => fin_o C i 1 h e _ a b c d' e'
  obtain ⟨d1, D1, be⟩ := begin_X (t := 1) (y := nI 0) s1.1 (Sc_of s2 S) D (by omega) (by rw [eQ, eG]; exact hi2) c3 (.inl rfl) rfl cz
  have D2 : DX nb (fin C i 1 h e (vdp V h + 1)) d1 := DX_fin D1
  have ekW : ∀ j, vkd (fin C i 1 h e (vdp V h + 1)) j = if j = i then 1 else vkd V j := fun j => by
    rw [fin_3]; by_cases c : j = i
    · rw [if_pos c, if_pos c]
    · rw [if_neg c, if_neg c, s4, if_neg c]
  obtain ⟨GW, he⟩ := mk_fin (W := fin C i 1 h e (vdp V h + 1)) G hk hi1 hi2 hi0 hn hnm (.inl rfl) T0 F1
    (CntI_of (V := C) rfl (fo 13 (by omega) (by omega) (by omega) (by omega) (by omega)) rfl (fun j => by
      rw [ekW, s4]; by_cases c : j = i
      · rw [if_pos c, if_pos c]; omega
      · rw [if_neg c, if_neg c]) s3)
    (CntD_of (t := 1) G.1.1 G.2.2.1 s2 (by omega) hi2 hi0 ekW (fun y x _ _ => by rw [if_neg (by omega)]; show vdc C y x = _; rw [l6]; rfl))
    rfl ekW (fun j => by
      rw [fin_5, l1]; by_cases c : j = i
      · rw [if_pos c, if_pos c]
      · rw [if_neg c, if_neg c]; by_cases c2 : j = h
        · rw [if_pos c2, c2]; rfl
        · rw [if_neg c2])
    (fun j => by rw [fin_11, l2]) (fun j => by rw [fin_17, l3]) (fun j => by rw [fin_18, l4]) ((fo 16 (by omega) (by omega) (by omega) (by omega) (by omega)).trans l5)
    (fun j _ => ⟨congrFun (fo 4 (by omega) (by omega) (by omega) (by omega) (by omega)) j, congrFun (fo 6 (by omega) (by omega) (by omega) (by omega) (by omega)) j, congrFun (fo 7 (by omega) (by omega) (by omega) (by omega) (by omega)) j, congrFun (fo 8 (by omega) (by omega) (by omega) (by omega) (by omega)) j, congrFun (fo 9 (by omega) (by omega) (by omega) (by omega) (by omega)) j, congrFun (fo 10 (by omega) (by omega) (by omega) (by omega) (by omega)) j, rfl, rfl⟩)
    (fun a _ => congrFun (fo 15 (by omega) (by omega) (by omega) (by omega) (by omega)) a) (fun b => by rw [show vot (fin C i 1 h e (vdp V h + 1)) = vot C from fo 0 (by omega) (by omega) (by omega) (by omega) (by omega)]; exact s8 b) ⟨F3, by rw [F4, F5]; rfl⟩ (fun q => by omega)
  have hkW : vkd (fin C i 1 h e (vdp V h + 1)) h = 2 := by rw [ekW, if_neg (Ne.symm hih)]; exact hk
  obtain ⟨ρ', fo', be', se', q, n1, n2, n3⟩ := num_end h5 GW hkW D2 (Sc_of (V := V) s2 S) r1 R h9 he
  refine ⟨_, d1, ρ', _, f, q, GW, s2, hkW, D2, n1, ?_, RM_fnd (a := fo') (b := be') (c := se') (RM_S (m := 3) (v := nI 0) (by omega) R), fun k hk' => ?_, ?_, fun k hk' => rfl, ?_⟩
  · simp only [fXX0_make_0_179, hfe, obs, lit, litN, be, if_true, n2]
  · rw [fnd_k _ _ _ _ (by omega) (by omega) (by omega), stS_k _ _ _ (by omega)]
  · exact stS_e τ 3 (nI 0)
  · simp only [fMX12_make_0_351, lit, litN, if_true, n3]
