set_option maxRecDepth 4096 in
theorem dots_D {nb : Nat} {W : VV} {i h b : Nat} {g : Nat → Nat} (hb : vbl W i 0 = b) (hm : vmn W i = 1) (hz : vsz W i = 1024) (hv : vdat W = dotW g b i h) (hp : vpar W i = h) (he : ves W i 0 = [1024 * b, 1024 * b + 12]) (hlk : vlk W i = 2) (hi : i < 3000) (hh : h < 3000) : DirI nb W i := by
  have E1 := EntB_ent g (e := 1024 * b) (i := i) (ln := 12) (n := 1) (t := 2) dotn (by omega) (by omega) (by omega) (by omega)
  have E2 := EntB_ent (entW g (1024 * b) i 12 1 2 dotn) (e := 1024 * b + 12) (i := h) (ln := 1012) (n := 2) (t := 2) dotn (by omega) (by omega) (by omega) (by omega)
  have E3 : EntB (dotW g b i h) (1024 * b) i 12 1 2 dotn := EntB_fr (fun o ho => ent_out (.inl (by have : spc 1 = 12 := rfl; omega))) E1
  have E4 : EntB (dotW g b i h) (1024 * b + 12) h 1012 2 2 dotn := E2
  have s1 : spc 1 = 12 := rfl
  have s2 : spc 2 = 12 := rfl
  obtain ⟨a1, a2, a3, a4, a5, a6⟩ := E3
  obtain ⟨c1, c2, c3, c4, c5, c6⟩ := E4
  rw [← hv] at a1 a2 a3 a4 a5 a6 c1 c2 c3 c4 c5 c6
  have hfl : fl W i = [1024 * b, 1024 * b + 12] := by unfold fl; rw [hm]; show ves W i 0 ++ [] = _; rw [he]; rfl
  refine ⟨⟨by omega, by rw [hz, hm], fun k hk => ?_⟩, ⟨[], by rw [he, hb]⟩, ?_, ?_, ?_, ?_⟩
  · have k0 : k = 0 := by omega
    subst k0
    rw [he, hb]
    exact ⟨rfl, by omega, by omega, by omega, by rw [a2], by rw [a2]; omega, by rw [a2, c2], by rw [a2, c2]; omega, by rw [a2, c2]; rfl⟩
  · unfold Dots
    rw [hb, hp]
    refine ⟨a1, c1, a2, ⟨a3, a4, a5 0 (by omega), fun o h1 h2 => a6 o (by omega) (by omega)⟩, c3, c4, c5 0 (by omega), c5 1 (by omega), fun o h1 h2 => ?_⟩
    have := c6 (o - 12) (by omega) (by omega)
    rw [show 1024 * b + 12 + (o - 12) = 1024 * b + o by omega] at this; exact this
  · rw [hfl]; intro a ha; simp at ha
  · rw [hfl]; intro a a' ha; simp [itm] at ha
  · rw [hfl, hlk]; rfl
set_option maxRecDepth 4096 in
theorem tail_D {nb : Nat} (h5 : nb ≤ 512) {V C : VV} (G : Good nb V) {h e i n ln : Nat} {w : Nat → Nat} (hk : vkd V h = 2) (hi1 : 12 ≤ i) (hi2 : i ≤ vQ V * vG V) (hi0 : vkd V i = 0) (hn : nmOK w n) (hnm : ∀ a ∈ itm (vdat V) (fl V h), ¬ nmEq (vdat V) a w n) (T : Stg nb V C h e i n 2 w ln) (hfb : 1 ≤ nfb C)
    {ρ s : XS} {d : Nat → Nat} (D : DX nb C d) (S : Sc V ρ) (r1 : ρ.1 1 = nI h) (hfe : fXX5_fillEntry_7_16 nb (nI e) (nI i) (nI 1) (nI n) s = some (XD ρ d)) {τ : XS} {f : Nat → Nat} (R : RM nb (fin C i 2 h e (vdp V h + 1)) τ f) (h9 : τ.1 9 = nI h) :
    ∃ W d' ρ' τ' f' q, Good nb W ∧ W.1 = V.1 ∧ vkd W h = 2 ∧ DX nb W d' ∧ keepX ρ ρ' ∧ fXX0_make_0_179 nb (nI 1) (nI n) (nI i) (nI e) s = some (0, nI q, XD ρ' d') ∧ RM nb W τ' f' ∧ (∀ k, (k = 0 ∨ k = 1 ∨ k = 9) → τ'.1 k = τ.1 k) ∧ τ'.1 3 = nI 0 ∧ (∀ k, (k = 1 ∨ k = 2 ∨ k = 3) → τ'.2.1 k = τ.2.1 k) ∧ fMX12_make_0_351 nb (nI 1) (nI i) (nI e) (XD τ f) = some (nI q, XD τ' f') := by
  obtain ⟨c3, cz, cr, F1, F2, F3, F4, F5⟩ := fin_C G hk hi0 T (vdp V h + 1)
  have T0 := T
  obtain ⟨s1, s2, s3, s4, ⟨l1, l2, l3, l4, l5, l6⟩, s6, s7, s8, -⟩ := T
  have hih : i ≠ h := fun q => by rw [← q] at hk; omega
  obtain ⟨hl, DI, DI2, hL⟩ := dirF G hk
  obtain ⟨in1, in2, in3⟩ := G.ino hl
  have hgl := G_lt G.1.1
  have eQ : vQ C = vQ V := congrFun s2 1
  have eG : vG C = vG V := congrFun s2 2
  have fo : ∀ k, k ≠ 3 → k ≠ 5 → k ≠ 11 → k ≠ 17 → k ≠ 18 → (fin C i 2 h e (vdp V h + 1)).2.1 k = C.2.1 k := fun k a b c d' e' => fin_o C i 2 h e _ a b c d' e'
  obtain ⟨d1, D1, be⟩ := begin_X (t := 2) (y := nI 1) s1.1 (Sc_of s2 S) D (by omega) (by rw [eQ, eG]; exact hi2) c3 (.inr rfl) rfl cz
  have D2 : DX nb (fin C i 2 h e (vdp V h + 1)) d1 := DX_fin D1
  have ekF : ∀ j, vkd (fin C i 2 h e (vdp V h + 1)) j = if j = i then 2 else vkd V j := fun j => by
    rw [fin_3]; by_cases c : j = i
    · rw [if_pos c, if_pos c]
    · rw [if_neg c, if_neg c, s4, if_neg c]
  have f5 : ∀ j, vlk (fin C i 2 h e (vdp V h + 1)) j = if j = i then 2 else vlk V j := fun j => by rw [fin_5, l1]
  have f11 : ∀ j, vpar (fin C i 2 h e (vdp V h + 1)) j = if j = i then h else vpar V j := fun j => by rw [fin_11, l2]
  have f17 : ∀ j, vent (fin C i 2 h e (vdp V h + 1)) j = if j = i then e else vent V j := fun j => by rw [fin_17, l3]
  have f18 : ∀ j, vdp (fin C i 2 h e (vdp V h + 1)) j = if j = i then vdp V h + 1 else vdp V j := fun j => by rw [fin_18, l4]
  have f16 : vtm (fin C i 2 h e (vdp V h + 1)) = vtm V := (fo 16 (by omega) (by omega) (by omega) (by omega) (by omega)).trans l5
  have f13 : vFI (fin C i 2 h e (vdp V h + 1)) = vFI C := fo 13 (by omega) (by omega) (by omega) (by omega) (by omega)
  have f0 : vot (fin C i 2 h e (vdp V h + 1)) = vot C := fo 0 (by omega) (by omega) (by omega) (by omega) (by omega)
  have f15 : vdat (fin C i 2 h e (vdp V h + 1)) = vdat C := fo 15 (by omega) (by omega) (by omega) (by omega) (by omega)
  have fz : ∀ j, vsz (fin C i 2 h e (vdp V h + 1)) j = vsz C j ∧ vmn (fin C i 2 h e (vdp V h + 1)) j = vmn C j ∧ vrn (fin C i 2 h e (vdp V h + 1)) j = vrn C j ∧ vtw (fin C i 2 h e (vdp V h + 1)) j = vtw C j ∧ vsg (fin C i 2 h e (vdp V h + 1)) j = vsg C j ∧ vdb (fin C i 2 h e (vdp V h + 1)) j = vdb C j := fun j => ⟨congrFun (fo 4 (by omega) (by omega) (by omega) (by omega) (by omega)) j, congrFun (fo 6 (by omega) (by omega) (by omega) (by omega) (by omega)) j, congrFun (fo 7 (by omega) (by omega) (by omega) (by omega) (by omega)) j, congrFun (fo 8 (by omega) (by omega) (by omega) (by omega) (by omega)) j, congrFun (fo 9 (by omega) (by omega) (by omega) (by omega) (by omega)) j, congrFun (fo 10 (by omega) (by omega) (by omega) (by omega) (by omega)) j⟩
  have ft : ∀ k, (fin C i 2 h e (vdp V h + 1)).2.2.1 k = C.2.2.1 k := fun _ => rfl
  have fe : (fin C i 2 h e (vdp V h + 1)).2.2.2 = C.2.2.2 := rfl
  have fs : (fin C i 2 h e (vdp V h + 1)).1 = V.1 := s2
  generalize hF : fin C i 2 h e (vdp V h + 1) = F at *
  have FQ : vQ F = vQ V := congrFun fs 1
  have FG : vG F = vG V := congrFun fs 2
  -- the count of directories
  have hx := (G.1.1.1.ino (by omega) hi2).1
  have hnl := (nfb_lt G.1.1).2.2.2.2 ((i - 1) / vG V)
  obtain ⟨d2, D3, cd⟩ := countD_X (i := i) F1.1 (Sc_of (V := V) fs S) D2 (by omega) (by rw [FQ, FG]; exact hi2) (f := ndcg V ((i - 1) / vG V)) (w := ndcg V ((i - 1) / vG V) + 1) (δ := nI 1) (fun y hy => by
    rw [FQ] at hy
    rw [FG]; show F.2.2.1 4 y _ = _; rw [ft]; show vdc C y _ = _; rw [l6]; exact G.2.2.1 y hy _ hx) (by omega) (nI_add _ _)
  rw [FG, FQ] at D3
  -- the links of here
  have hlk2 := DI.2.2.2.2.2
  have hlkb : vlk V h < 65535 := by
    have hle' := itm_len (f := vdat V) DI2.2.1
    have := List.length_filter_le (isD V) (itm (vdat V) (fl V h)); omega
  have e3 : (cnD F ((i - 1) / vG V) (ndcg V ((i - 1) / vG V) + 1) (vQ V)).1 = V.1 := (cnD_s _ _ _ _).trans fs
  have e3a : ∀ k, (cnD F ((i - 1) / vG V) (ndcg V ((i - 1) / vG V) + 1) (vQ V)).2.1 k = F.2.1 k := fun k => by rw [cnD_a]
  have e3d : ∀ y x, vdc (cnD F ((i - 1) / vG V) (ndcg V ((i - 1) / vG V) + 1) (vQ V)) y x = if y < vQ V ∧ x = (i - 1) / vG V then ndcg V ((i - 1) / vG V) + 1 else vdc V y x := fun y x => by
    rw [cnD_d]; show (if _ then _ else F.2.2.1 4 y x) = _; rw [ft]; show (if _ then _ else vdc C y x) = _; rw [l6]
  have e3t : ∀ k, k ≠ 4 → (cnD F ((i - 1) / vG V) (ndcg V ((i - 1) / vG V) + 1) (vQ V)).2.2.1 k = C.2.2.1 k := fun k hk' => (cnD_t _ _ _ _ hk').trans (ft k)
  have e3e : (cnD F ((i - 1) / vG V) (ndcg V ((i - 1) / vG V) + 1) (vQ V)).2.2.2 = C.2.2.2 := (cnD_l _ _ _ _).trans fe
  generalize hC1 : cnD F ((i - 1) / vG V) (ndcg V ((i - 1) / vG V) + 1) (vQ V) = C1 at *
  have B1 : Bas nb C1 := Bas_of (V := F) (e3.trans fs.symm) (e3a 0) F1.1
  have Q1 : vQ C1 = vQ V := congrFun e3 1
  have G1 : vG C1 = vG V := congrFun e3 2
  have lk1 : vlk C1 h = vlk V h := by show C1.2.1 5 h = _; rw [e3a]; exact (f5 h).trans (if_neg (Ne.symm hih))
  have hl1 : live C1 h := .inr (by show C1.2.1 3 h = _; rw [e3a]; exact (ekF h).trans (by rw [if_neg (Ne.symm hih)]; exact hk))
  obtain ⟨d3, D4, al⟩ := addLinks_X B1 (Sc_of (V := V) e3 S) D3 in1 (by rw [Q1, G1]; exact in2) hl1 (v := vlk V h + 1) (δ := nI 1) (by rw [lk1]; omega) (by rw [lk1, nI_add])
  have e4a : ∀ k, k ≠ 5 → (setA C1 5 h (vlk V h + 1)).2.1 k = F.2.1 k := fun k hk' => (setA_o _ _ _ hk').trans (e3a k)
  have e4l : ∀ j, vlk (setA C1 5 h (vlk V h + 1)) j = if j = i then 2 else if j = h then vlk V h + 1 else vlk V j := fun j => by
    show (setA C1 5 h (vlk V h + 1)).2.1 5 j = _
    rw [setA_i]
    by_cases c : j = h
    · rw [if_pos c, if_neg (by omega), if_pos c]
    · rw [if_neg c, e3a]; show vlk F j = _; rw [f5, if_neg c]
  have e4s : (setA C1 5 h (vlk V h + 1)).1 = V.1 := e3
  have e4t : ∀ k, (setA C1 5 h (vlk V h + 1)).2.2.1 k = C1.2.2.1 k := fun _ => rfl
  have e4e : (setA C1 5 h (vlk V h + 1)).2.2.2 = C.2.2.2 := e3e
  generalize hC2 : setA C1 5 h (vlk V h + 1) = C2 at *
  have A2 : Stc nb C2 := Stc_eq F1 (e4s.trans fs.symm) (e4a 0 (by omega)) (e4a 1 (by omega)) (e4a 2 (by omega)) (e4a 3 (by omega)) (e4a 6 (by omega)) (e4a 7 (by omega)) (e4a 9 (by omega)) (e4a 10 (by omega)) ((e4t 0).trans ((e3t 0 (by omega)).trans (ft 0).symm)) ((e4t 1).trans ((e3t 1 (by omega)).trans (ft 1).symm)) (e4a 12 (by omega)) ((e4t 2).trans ((e3t 2 (by omega)).trans (ft 2).symm))
  have nf2 : nfb C2 = nfb F := by
    have := (CntB_of (V := F) (W := C2) (e4s.trans fs.symm) (e4a 12 (by omega)) ((e4t 2).trans ((e3t 2 (by omega)).trans (ft 2).symm)) (fun c => by rw [show vot C2 = vot F from e4a 0 (by omega)]) F1.2.1).2
    exact this
  have Q2 : vQ C2 = vQ V := congrFun e4s 1
  have G2 : vG C2 = vG V := congrFun e4s 2
  have li2 : live C2 i := .inr (by show C2.2.1 3 i = _; rw [e4a 3 (by omega)]; exact (ekF i).trans (if_pos rfl))
  have m2 : vmn C2 i = 0 := by show C2.2.1 6 i = _; rw [e4a 6 (by omega)]; exact F4
  have z2 : vsz C2 i = 0 := by show C2.2.1 4 i = _; rw [e4a 4 (by omega)]; exact F5
  have P2 : Shp C2 i := by
    unfold Shp at *
    rw [show vmn C2 = vmn F from e4a 6 (by omega), show vsg C2 = vsg F from e4a 9 (by omega), show vdb C2 = vdb F from e4a 10 (by omega), show vrn C2 = vrn F from e4a 7 (by omega), show vtw C2 = vtw F from e4a 8 (by omega)]; exact F3
  have hf2 : cost (vmn C2 i) ≤ nfb C2 := by rw [m2, nf2, F2]; exact hfb
  obtain ⟨d4, D5, ad⟩ := addDir_X A2 (by omega) (by rw [Q2, G2]; exact hi2) li2 P2 hf2 (by rw [z2, m2]) ρ d3 (Sc_of (V := V) e4s S) D4
  obtain ⟨A3, P3, m3, nf3, E3, b3, -⟩ := addB_S A2 (by omega) (by rw [Q2, G2]; exact hi2) li2 P2 hf2
  have hraw := addB_raw (nb := nb) (V := C2) (i := i) (fun c => by rw [show vot C2 = vot F from e4a 0 (by omega), f0]; exact s8 c)
  have RE0 : RE F C2 := ⟨e4s.trans fs.symm, e4a 0 (by omega), e4a 6 (by omega), e4a 7 (by omega), e4a 9 (by omega), e4a 10 (by omega), (e4t 0).trans ((e3t 0 (by omega)).trans (ft 0).symm), (e4t 1).trans ((e3t 1 (by omega)).trans (ft 1).symm), e4a 15 (by omega)⟩
  have RE1 := RE_addB RE0 i
  obtain ⟨τ2, f2, R2, t1, t2, t3⟩ := folder_M F1 R (i := i) (by omega) (by rw [FQ, FG]; exact hi2) (.inr (by rw [ekF, if_pos rfl])) F3 F4 (by rw [F2]; exact hfb)
  obtain ⟨EF1, EF2⟩ : vlk (addB F i) = vlk F ∧ Ext F (addB F i) i := by
    have := (addB_S F1 (i := i) (by omega) (by rw [FQ, FG]; exact hi2) (.inr (by rw [ekF, if_pos rfl])) F3 (by rw [F4, F2]; exact hfb)).2.2.2.2.1
    exact ⟨this.2.2.2.1, this⟩
  rw [m2] at ad m3 b3 D5
  obtain ⟨x1, x2, x3, x4, x5, x6, x7, x8, x9, x10, x11, x12, x13, x14, x15, x16, x17, x18, x19⟩ := E3
  have y19 := x19 0 (by omega) (by omega)
  generalize hX : addB C2 i = X at *
  generalize hY : addB F i = Y at *
  obtain ⟨r1', r2', r3', r4', r5', r6', r7', r8', r9'⟩ := RE1
  have liX : live X i := by unfold live; rw [x2]; exact li2
  have ob := A3.2.2.1 i 0 liX (by omega)
  have hbY : vbl Y i 0 = vbl X i 0 := by rw [r7']
  rw [hbY, f11, if_pos rfl] at R2
  generalize hb : vbl X i 0 = b at *
  rw [← r9'] at R2
  have D6 : DX nb (setR (setA X 4 i 1024) 15 (dotW (vdat X) b i h)) (dotC b i h d4) := by
    have := DX_loc D5 (b := b) (G := dotC b i h) ob.2.1 ob.2.2.1 (Loc_dotC b i h)
    rw [show dotC b i h (vdat (setA X 4 i (1024 * (0 + 1)))) = dotW (vdat X) b i h from dotC_eq (fun o ho => y19.2 o ho)] at this
    exact this
  have D7 := DX_E i 0 [1024 * b, 1024 * b + 12] D6
  have wA : ∀ k, k ≠ 4 → k ≠ 15 → (setE (setR (setA X 4 i 1024) 15 (dotW (vdat X) b i h)) i 0 [1024 * b, 1024 * b + 12]).2.1 k = X.2.1 k := fun k k4 k15 => by
    show va_up (setA X 4 i 1024).2.1 15 (dotW (vdat X) b i h) k = _
    rw [va_up_ne _ _ k15, setA_o _ _ _ k4]
  have wT : ∀ k, (setE (setR (setA X 4 i 1024) 15 (dotW (vdat X) b i h)) i 0 [1024 * b, 1024 * b + 12]).2.2.1 k = X.2.2.1 k := fun _ => rfl
  have wS : (setE (setR (setA X 4 i 1024) 15 (dotW (vdat X) b i h)) i 0 [1024 * b, 1024 * b + 12]).1 = X.1 := rfl
  have wz : ∀ j, vsz (setE (setR (setA X 4 i 1024) 15 (dotW (vdat X) b i h)) i 0 [1024 * b, 1024 * b + 12]) j = if j = i then 1024 else vsz X j := fun j => by
    show va_up (setA X 4 i 1024).2.1 15 (dotW (vdat X) b i h) 4 j = _
    rw [va_up_ne _ _ (by omega), setA_i]
  have wd : vdat (setE (setR (setA X 4 i 1024) 15 (dotW (vdat X) b i h)) i 0 [1024 * b, 1024 * b + 12]) = dotW (vdat X) b i h := by
    show va_up (setA X 4 i 1024).2.1 15 (dotW (vdat X) b i h) 15 = _
    rw [va_up_self]
  have we : ∀ j k, (j ≠ i ∨ k ≠ 0) → ves (setE (setR (setA X 4 i 1024) 15 (dotW (vdat X) b i h)) i 0 [1024 * b, 1024 * b + 12]) j k = ves X j k := fun j k hjk => setE_n _ _ _ _ hjk
  have wei : ves (setE (setR (setA X 4 i 1024) 15 (dotW (vdat X) b i h)) i 0 [1024 * b, 1024 * b + 12]) i 0 = [1024 * b, 1024 * b + 12] := setE_e _ _ _ _
  -- the reference
  have R3 := RM_lk R2 h (vlk V h + 1)
  have R4 : RM nb (setE (setR (setA X 4 i 1024) 15 (dotW (vdat X) b i h)) i 0 [1024 * b, 1024 * b + 12]) (stA τ2 8 h (nI (vlk V h + 1))) f2 := by
    have ya : ∀ k, k ≠ 4 → k ≠ 5 → k ≠ 15 → (setA (setR (setA Y 4 i 1024) 15 (dotW (vdat X) b i h)) 5 h (vlk V h + 1)).2.1 k = Y.2.1 k := fun k a b' c => by
      rw [setA_o _ _ _ b']; show va_up (setA Y 4 i 1024).2.1 15 (dotW (vdat X) b i h) k = _; rw [va_up_ne _ _ c, setA_o _ _ _ a]
    have yz : ∀ j, vsz (setA (setR (setA Y 4 i 1024) 15 (dotW (vdat X) b i h)) 5 h (vlk V h + 1)) j = if j = i then 1024 else vsz Y j := fun j => by
      show (setA _ _ _ _).2.1 4 j = _
      rw [setA_o _ _ _ (by omega)]; show va_up (setA Y 4 i 1024).2.1 15 (dotW (vdat X) b i h) 4 j = _; rw [va_up_ne _ _ (by omega), setA_i]
    have yl : ∀ j, vlk (setA (setR (setA Y 4 i 1024) 15 (dotW (vdat X) b i h)) 5 h (vlk V h + 1)) j = if j = h then vlk V h + 1 else vlk Y j := fun j => by
      show (setA _ _ _ _).2.1 5 j = _
      rw [setA_i]; rfl
    have yd : vdat (setA (setR (setA Y 4 i 1024) 15 (dotW (vdat X) b i h)) 5 h (vlk V h + 1)) = dotW (vdat X) b i h := by
      show (setA _ _ _ _).2.1 15 = _
      rw [setA_o _ _ _ (by omega)]; show va_up (setA Y 4 i 1024).2.1 15 (dotW (vdat X) b i h) 15 = _; rw [va_up_self]
    refine RM_RE R3 ⟨wS.trans r1', (wA 0 (by omega) (by omega)).trans (r2'.trans (ya 0 (by omega) (by omega) (by omega)).symm), (wA 6 (by omega) (by omega)).trans (r3'.trans (ya 6 (by omega) (by omega) (by omega)).symm), (wA 7 (by omega) (by omega)).trans (r4'.trans (ya 7 (by omega) (by omega) (by omega)).symm), (wA 9 (by omega) (by omega)).trans (r5'.trans (ya 9 (by omega) (by omega) (by omega)).symm), (wA 10 (by omega) (by omega)).trans (r6'.trans (ya 10 (by omega) (by omega) (by omega)).symm), (wT 0).trans r7', (wT 1).trans r8', wd.trans yd.symm⟩ ?_ ?_ ?_ ?_ ?_
    · refine (wA 3 (by omega) (by omega)).trans (Eq.trans ?_ (ya 3 (by omega) (by omega) (by omega)).symm)
      exact x2.trans ((e4a 3 (by omega)).trans EF2.2.1.symm)
    · funext j; rw [wz, yz]
      by_cases c : j = i
      · rw [if_pos c, if_pos c]
      · rw [if_neg c, if_neg c, x3, EF2.2.2.1]; exact congrFun (e4a 4 (by omega)) j
    · funext j
      rw [yl]
      show (setE _ _ _ _).2.1 5 j = _
      rw [wA 5 (by omega) (by omega)]; show vlk X j = _
      rw [x4, e4l, EF1, f5]
      by_cases c : j = h
      · rw [if_pos c, if_neg (by omega), if_pos c]
      · rw [if_neg c, if_neg c]
    · refine (wA 11 (by omega) (by omega)).trans (Eq.trans ?_ (ya 11 (by omega) (by omega) (by omega)).symm)
      exact x5.trans ((e4a 11 (by omega)).trans EF2.2.2.2.2.1.symm)
    · refine (wA 16 (by omega) (by omega)).trans (Eq.trans ?_ (ya 16 (by omega) (by omega) (by omega)).symm)
      exact x7.trans ((e4a 16 (by omega)).trans EF2.2.2.2.2.2.2.1.symm)
  generalize hW : setE (setR (setA X 4 i 1024) 15 (dotW (vdat X) b i h)) i 0 [1024 * b, 1024 * b + 12] = W at *
  have Wk : ∀ j, vkd W j = if j = i then 2 else vkd V j := fun j => by
    show W.2.1 3 j = _
    rw [wA 3 (by omega) (by omega)]; show vkd X j = _; rw [x2]; show C2.2.1 3 j = _; rw [e4a 3 (by omega)]; exact ekF j
  have Wl : ∀ j, vlk W j = if j = i then 2 else if j = h then vlk V h + 1 else vlk V j := fun j => by
    show W.2.1 5 j = _
    rw [wA 5 (by omega) (by omega)]; show vlk X j = _; rw [x4, e4l]
  have Wp : ∀ j, vpar W j = if j = i then h else vpar V j := fun j => by
    show W.2.1 11 j = _
    rw [wA 11 (by omega) (by omega)]; show vpar X j = _; rw [x5]; show C2.2.1 11 j = _; rw [e4a 11 (by omega)]; exact f11 j
  have We : ∀ j, vent W j = if j = i then e else vent V j := fun j => by
    show W.2.1 17 j = _
    rw [wA 17 (by omega) (by omega)]; show vent X j = _; rw [x8]; show C2.2.1 17 j = _; rw [e4a 17 (by omega)]; exact f17 j
  have Wd : ∀ j, vdp W j = if j = i then vdp V h + 1 else vdp V j := fun j => by
    show W.2.1 18 j = _
    rw [wA 18 (by omega) (by omega)]; show vdp X j = _; rw [x9]; show C2.2.1 18 j = _; rw [e4a 18 (by omega)]; exact f18 j
  have WS : W.1 = V.1 := wS.trans (x1.trans e4s)
  have WA : Stc nb W := Stc_eq A3 wS (wA 0 (by omega) (by omega)) (wA 1 (by omega) (by omega)) (wA 2 (by omega) (by omega)) (wA 3 (by omega) (by omega)) (wA 6 (by omega) (by omega)) (wA 7 (by omega) (by omega)) (wA 9 (by omega) (by omega)) (wA 10 (by omega) (by omega)) (wT 0) (wT 1) (wA 12 (by omega) (by omega)) (wT 2)
  have WI : CntI W := by
    refine CntI_of (V := C) (WS.trans s2.symm) ?_ ?_ (fun j => ?_) s3
    · show W.2.1 13 = _
      rw [wA 13 (by omega) (by omega)]; exact x6.trans ((e4a 13 (by omega)).trans f13)
    · show W.2.2.1 3 = _
      rw [wT]; exact x10.trans ((e4t 3).trans (e3t 3 (by omega)))
    · rw [Wk, s4]; by_cases c : j = i
      · rw [if_pos c, if_pos c]; omega
      · rw [if_neg c, if_neg c]
  have WD : CntD W := CntD_of (t := 2) G.1.1 G.2.2.1 WS (by omega) hi2 hi0 Wk (fun y x hy hx' => by
    show W.2.2.1 4 y x = _
    rw [wT]; show vdc X y x = _; rw [x11]; show C2.2.2.1 4 y x = _; rw [e4t]; show vdc C1 y x = _; rw [e3d]
    by_cases c : x = (i - 1) / vG V
    · rw [if_pos ⟨hy, c⟩, if_pos ⟨rfl, c⟩, G.2.2.1 y hy x hx', c]
    · rw [if_neg (fun q => c q.2), if_neg (fun q => c q.2)]; rfl)
  have Wmn : vmn W i = 1 := by show W.2.1 6 i = _; rw [wA 6 (by omega) (by omega)]; exact m3
  have PW : Shp W i := by
    unfold Shp at *
    rw [show vmn W = vmn X from wA 6 (by omega) (by omega), show vsg W = vsg X from wA 9 (by omega) (by omega), show vdb W = vdb X from wA 10 (by omega) (by omega), show vrn W = vrn X from wA 7 (by omega) (by omega), show vtw W = vtw X from wA 8 (by omega) (by omega)]; exact P3
  have Wb : vbl W i 0 = b := by show W.2.2.1 0 i 0 = _; rw [wT]; exact hb
  obtain ⟨GW, he⟩ := mk_fin (W := W) G hk hi1 hi2 hi0 hn hnm (.inr rfl) T0 WA WI WD (WS.trans s2.symm) Wk Wl Wp We Wd
    (by show W.2.1 16 = _; rw [wA 16 (by omega) (by omega)]; exact x7.trans ((e4a 16 (by omega)).trans f16))
    (fun j hj => by
      obtain ⟨y1, y2, y3, y4, y5⟩ := x13 j hj
      obtain ⟨z1, z2', z3, z4, z5, z6⟩ := fz j
      refine ⟨by rw [wz, if_neg hj, x3]; exact (congrFun (e4a 4 (by omega)) j).trans z1, ?_, ?_, ?_, ?_, ?_, ?_, ?_⟩
      · show W.2.1 6 j = _; rw [wA 6 (by omega) (by omega)]; exact y1.trans ((congrFun (e4a 6 (by omega)) j).trans z2')
      · show W.2.1 7 j = _; rw [wA 7 (by omega) (by omega)]; exact y2.trans ((congrFun (e4a 7 (by omega)) j).trans z3)
      · show W.2.1 8 j = _; rw [wA 8 (by omega) (by omega)]; exact y3.trans ((congrFun (e4a 8 (by omega)) j).trans z4)
      · show W.2.1 9 j = _; rw [wA 9 (by omega) (by omega)]; exact y4.trans ((congrFun (e4a 9 (by omega)) j).trans z5)
      · show W.2.1 10 j = _; rw [wA 10 (by omega) (by omega)]; exact y5.trans ((congrFun (e4a 10 (by omega)) j).trans z6)
      · funext k; rw [we j k (.inl hj)]; show X.2.2.2 j k = _; rw [show X.2.2.2 = C2.2.2.2 from x12, e4e]
      · funext k; show W.2.2.1 0 j k = _; rw [wT]; show vbl X j k = _; rw [(x16 j k hj).1]; show C2.2.2.1 0 j k = _; rw [e4t, e3t 0 (by omega)])
    (fun a ha => by
      rw [wd]
      have hv : vot C2 = vot C := (e4a 0 (by omega)).trans f0
      have hne : a / 1024 ≠ b := fun q => ha (by rw [← hv, q]; exact y19.1)
      refine ((Loc_dotW b i h (vdat X) a).1 hne).trans ?_
      rw [x18 a (by rw [hv]; exact ha)]
      show C2.2.1 15 a = _; rw [e4a 15 (by omega)]; exact congrFun f15 a)
    (fun c => by rw [show vot W = vot X from wA 0 (by omega) (by omega)]; exact hraw c) ⟨PW, by rw [wz, if_pos rfl, Wmn]; rfl⟩
    (fun _ => dots_D Wb Wmn (by rw [wz, if_pos rfl]) wd (by rw [Wp, if_pos rfl]) wei (by rw [Wl, if_pos rfl]) (by omega) (by omega))
  have hkW : vkd W h = 2 := by rw [Wk, if_neg (Ne.symm hih)]; exact hk
  have u9 : (stA τ2 8 h (nI (vlk V h + 1))).1 9 = nI h := by show τ2.1 9 = _; rw [t1]; exact h9
  obtain ⟨ρ', fo', be', se', q, n1, n2, n3⟩ := num_end h5 GW hkW D7 (Sc_of (V := V) WS S) r1 R4 u9 he
  refine ⟨W, _, ρ', _, f2, q, GW, WS, hkW, D7, n1, ?_, RM_fnd (a := fo') (b := be') (c := se') (RM_S (m := 3) (v := nI 0) (by omega) R4), fun k hk' => ?_, ?_, fun k hk' => ?_, ?_⟩
  · have q1 : ∀ g : Nat → Nat, (XD ρ g).1 1 = nI h := fun _ => r1
    have ld := layDots_X ρ d4 h5 ob.2.1 i h
    simp only [fXX0_make_0_179, hfe, obs, lit, litN, be, nI10, if_false, cd, q1, al, ad, ld, n2]
  · rw [fnd_k _ _ _ _ (by omega) (by omega) (by omega), stS_k _ _ _ (by omega)]; show τ2.1 k = _; rw [t1]
  · exact stS_e (stA τ2 8 h (nI (vlk V h + 1))) 3 (nI 0)
  · show (stA τ2 8 h (nI (vlk V h + 1))).2.1 k = _
    rw [stA_k _ _ _ _ (by omega), t2 k (by omega)]
  · have w9 : (XD τ2 f2).1 9 = nI h := by show τ2.1 9 = _; rw [t1]; exact h9
    have w8 : (XD τ2 f2).2.1 8 h = nI (vlk V h) := by
      rw [XD_k _ _ _ _ (by omega), (R2.2.2.1 h in3).2.2.1]
      show nI (va_up (setA Y 4 i 1024).2.1 15 (dotW (vdat X) b i h) 5 h) = _
      rw [va_up_ne _ _ (by omega), setA_o _ _ _ (by omega)]; show nI (vlk Y h) = _; rw [EF1, f5, if_neg (Ne.symm hih)]
    simp (disch := omega) only [fMX12_make_0_351, lit, litN, nI10, if_false, t3, obs, w9, nI_ltI', nI_leI', nI_eqI, nI_clampI, n_or, if_neg, w8, nI_add, XD_A, n3]
