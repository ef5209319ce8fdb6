set_option maxRecDepth 4096 in
theorem img_S4 (nb : Nat) (V : VV) (m b o : Nat) : img nb (setS V 4 m) b o = img nb V b o := rfl
set_option maxRecDepth 4096 in
theorem DX_S4 {nb : Nat} {V : VV} {d : Nat → Nat} (m : Nat) (D : DX nb V d) : DX nb (setS V 4 m) d := fun b o hb ho hv => by rw [img_S4]; exact D b o hb ho hv
set_option maxRecDepth 4096 in
theorem Stc_S4 {nb : Nat} {V : VV} (m : Nat) (A : Stc nb V) : Stc nb (setS V 4 m) := A
set_option maxRecDepth 4096 in
theorem CntI_S4 {V : VV} (m : Nat) (C : CntI V) : CntI (setS V 4 m) := C
set_option maxRecDepth 4096 in
theorem CntD_S4 {V : VV} (m : Nat) (C : CntD V) : CntD (setS V 4 m) := C
set_option maxRecDepth 4096 in
theorem RM_S4 {nb : Nat} {V : VV} {τ : XS} {f : Nat → Nat} (R : RM nb V τ f) : RM nb (setS V 4 1) (stS τ 2 (nI 1)) f := by
  obtain ⟨⟨a1, a2, a3, a4, a5, a6⟩, r2, r3, r4, r5, r6, r7, r8, r9⟩ := R
  exact ⟨⟨stS_e τ 2 (nI 1), a2, a3, a4, a5, a6⟩, r2, r3, r4, r5, r6, r7, r8, r9⟩
-- only the root is there, and it has no block yet
def Pre (nb : Nat) (C : VV) : Prop := Stc nb C ∧ (∀ i, vkd C i = if i = 2 then 2 else if 1 ≤ i ∧ i ≤ 11 then 3 else 0) ∧ CntI C ∧ CntD C ∧ (∀ k, k ≠ 0 → k ≠ 3 → k ≠ 5 → k ≠ 11 → k ≠ 12 → k ≠ 13 → ∀ i, C.2.1 k i = 0) ∧ (∀ i, vlk C i = if i = 2 then 2 else 0) ∧ (∀ i, vpar C i = 2) ∧ (∀ b, okt nb (vot C b) b) ∧ vI C < 4294967296 ∧ 1 ≤ nfb C
noncomputable def rtV (C : VV) (b : Nat) : VV := setE (setR (setA (addB C 2) 4 2 1024) 15 (dotW (vdat (addB C 2)) b 2 2)) 2 0 [1024 * b, 1024 * b + 12]
set_option maxRecDepth 4096 in
theorem Pre_P {nb : Nat} {C : VV} (H : Pre nb C) : live C 2 ∧ Shp C 2 ∧ vmn C 2 = 0 ∧ vsz C 2 = 0 ∧ cost (vmn C 2) ≤ nfb C := by
  obtain ⟨A, ck, _, _, cz, _, _, _, _, hf⟩ := H
  have m0 : vmn C 2 = 0 := cz 6 (by omega) (by omega) (by omega) (by omega) (by omega) (by omega) 2
  have s0 : vsg C 2 = 0 := cz 9 (by omega) (by omega) (by omega) (by omega) (by omega) (by omega) 2
  have d0 : vdb C 2 = 0 := cz 10 (by omega) (by omega) (by omega) (by omega) (by omega) (by omega) 2
  have r0 : vrn C 2 = 0 := cz 7 (by omega) (by omega) (by omega) (by omega) (by omega) (by omega) 2
  have t0 : vtw C 2 = 0 := cz 8 (by omega) (by omega) (by omega) (by omega) (by omega) (by omega) 2
  refine ⟨.inr (by rw [ck, if_pos rfl]), ?_, m0, cz 4 (by omega) (by omega) (by omega) (by omega) (by omega) (by omega) 2, by rw [m0]; exact hf⟩
  unfold Shp
  rw [m0, s0, d0, r0, t0]
  exact ⟨⟨fun z => absurd rfl z, fun z => by omega⟩, ⟨fun z => absurd rfl z, fun z => by omega⟩, rfl, rfl⟩
set_option maxRecDepth 4096 in
theorem root_G {nb : Nat} {C : VV} (H : Pre nb C) : Good nb (setS (rtV C (vbl (addB C 2) 2 0)) 4 1) ∧ vbl (addB C 2) 2 0 < nb ∧ vot (addB C 2) (vbl (addB C 2) 2 0) = 3 ∧ ∀ o, o < 1024 → vdat (addB C 2) (1024 * vbl (addB C 2) 2 0 + o) = 0 := by
  obtain ⟨l2, P2, m2, z2, hf2⟩ := Pre_P H
  obtain ⟨A, ck, cI, cD, cz, cl, cp, co, ci, hf⟩ := H
  have hg := G_lt A.1
  obtain ⟨A3, P3, m3, nf3, E3, b3, -⟩ := addB_S A (i := 2) (by omega) (by omega) l2 P2 hf2
  have hraw := addB_raw (nb := nb) (V := C) (i := 2) co
  rw [m2] at m3 b3
  obtain ⟨x1, x2, x3, x4, x5, x6, x7, x8, x9, x10, x11, x12, x13, x14, x15, x16, x17, x18, x19⟩ := E3
  have y19 := x19 0 (by omega) (by omega)
  unfold rtV
  generalize hX : addB C 2 = X at *
  have lX : live X 2 := by unfold live; rw [x2]; exact l2
  have ob := A3.2.2.1 2 0 lX (by omega)
  generalize hb : vbl X 2 0 = b at *
  refine ⟨?_, ob.2.1, ob.2.2.1, y19.2⟩
  have wA : ∀ k, k ≠ 4 → k ≠ 15 → (setE (setR (setA X 4 2 1024) 15 (dotW (vdat X) b 2 2)) 2 0 [1024 * b, 1024 * b + 12]).2.1 k = X.2.1 k := fun k k4 k15 => by
    show va_up (setA X 4 2 1024).2.1 15 (dotW (vdat X) b 2 2) k = _
    rw [va_up_ne _ _ k15, setA_o _ _ _ k4]
  have wT : ∀ k, (setE (setR (setA X 4 2 1024) 15 (dotW (vdat X) b 2 2)) 2 0 [1024 * b, 1024 * b + 12]).2.2.1 k = X.2.2.1 k := fun _ => rfl
  have wS : (setE (setR (setA X 4 2 1024) 15 (dotW (vdat X) b 2 2)) 2 0 [1024 * b, 1024 * b + 12]).1 = X.1 := rfl
  have wz : ∀ j, vsz (setE (setR (setA X 4 2 1024) 15 (dotW (vdat X) b 2 2)) 2 0 [1024 * b, 1024 * b + 12]) j = if j = 2 then 1024 else vsz X j := fun j => by
    show va_up (setA X 4 2 1024).2.1 15 (dotW (vdat X) b 2 2) 4 j = _
    rw [va_up_ne _ _ (by omega), setA_i]
  have wd : vdat (setE (setR (setA X 4 2 1024) 15 (dotW (vdat X) b 2 2)) 2 0 [1024 * b, 1024 * b + 12]) = dotW (vdat X) b 2 2 := by
    show va_up (setA X 4 2 1024).2.1 15 (dotW (vdat X) b 2 2) 15 = _
    rw [va_up_self]
  have wei : ves (setE (setR (setA X 4 2 1024) 15 (dotW (vdat X) b 2 2)) 2 0 [1024 * b, 1024 * b + 12]) 2 0 = [1024 * b, 1024 * b + 12] := setE_e _ _ _ _
  generalize hW : setE (setR (setA X 4 2 1024) 15 (dotW (vdat X) b 2 2)) 2 0 [1024 * b, 1024 * b + 12] = W at *
  have Wk : ∀ j, vkd W j = if j = 2 then 2 else if 1 ≤ j ∧ j ≤ 11 then 3 else 0 := fun j => by
    show W.2.1 3 j = _
    rw [wA 3 (by omega) (by omega)]; show vkd X j = _; rw [x2]; exact ck j
  have Wl : ∀ j, vlk W j = if j = 2 then 2 else 0 := fun j => by
    show W.2.1 5 j = _
    rw [wA 5 (by omega) (by omega)]; show vlk X j = _; rw [x4]; exact cl j
  have Wp : ∀ j, vpar W j = 2 := fun j => by
    show W.2.1 11 j = _
    rw [wA 11 (by omega) (by omega)]; show vpar X j = _; rw [x5]; exact cp j
  have Wt : ∀ x, vtm W x = 0 := fun x => by
    show W.2.1 16 x = _
    rw [wA 16 (by omega) (by omega)]; show vtm X x = _; rw [x7]; exact cz 16 (by omega) (by omega) (by omega) (by omega) (by omega) (by omega) x
  have WS : W.1 = C.1 := wS.trans x1
  have WA : Stc nb W := Stc_eq A3 wS (wA 0 (by omega) (by omega)) (wA 1 (by omega) (by omega)) (wA 2 (by omega) (by omega)) (wA 3 (by omega) (by omega)) (wA 6 (by omega) (by omega)) (wA 7 (by omega) (by omega)) (wA 9 (by omega) (by omega)) (wA 10 (by omega) (by omega)) (wT 0) (wT 1) (wA 12 (by omega) (by omega)) (wT 2)
  have WI : CntI W := by
    refine CntI_of (V := C) WS ?_ ?_ (fun j => by rw [Wk, ck]) cI
    · show W.2.1 13 = _
      rw [wA 13 (by omega) (by omega)]; exact x6
    · show W.2.2.1 3 = _
      rw [wT]; exact x10
  have WD : CntD W := by
    refine kd_of_CntD (V := C) WS ?_ ?_ cD
    · funext j; rw [Wk, ck]
    · show W.2.2.1 4 = _
      rw [wT]; exact x11
  have Wmn : vmn W 2 = 1 := by show W.2.1 6 2 = _; rw [wA 6 (by omega) (by omega)]; exact m3
  have PW : Shp W 2 := by
    unfold Shp at *
    rw [show vmn W = vmn X from wA 6 (by omega) (by omega), show vsg W = vsg X from wA 9 (by omega) (by omega), show vdb W = vdb X from wA 10 (by omega) (by omega), show vrn W = vrn X from wA 7 (by omega) (by omega), show vtw W = vtw X from wA 8 (by omega) (by omega)]; exact P3
  have Wb : vbl W 2 0 = b := by show W.2.2.1 0 2 0 = _; rw [wT]; exact hb
  have WDI : DirI nb W 2 := dots_D Wb Wmn (by rw [wz, if_pos rfl]) wd (Wp 2) wei (by rw [Wl, if_pos rfl]) (by omega) (by omega)
  have lv : ∀ j, live W j → j = 2 := fun j hj => by
    by_cases c : j = 2
    · exact c
    · unfold live at hj; rw [Wk, if_neg c] at hj
      split at hj <;> omega
  have Wo : ∀ c, okt nb (vot W c) c := fun c => by rw [show vot W = vot X from wA 0 (by omega) (by omega)]; exact hraw c
  have WIv : vI W = vI C := congrFun WS 3
  have g4 : ∀ j, live W j → Shp W j ∧ prt (vsz W j) = vmn W j := fun j hj => by
    have := lv j hj
    subst this
    exact ⟨PW, by rw [wz, if_pos rfl, Wmn]; rfl⟩
  have g5 : ∀ j, ¬ live W j → vsz W j = 0 ∧ vlk W j = 0 ∧ vmn W j = 0 ∧ vrn W j = 0 ∧ vtw W j = 0 ∧ vsg W j = 0 ∧ vdb W j = 0 ∧ vtm W (3 * j) = 0 ∧ vtm W (3 * j + 1) = 0 ∧ vtm W (3 * j + 2) = 0 := fun j hj => by
    have j2 : j ≠ 2 := fun e => hj (by rw [e]; exact .inr (by rw [Wk, if_pos rfl]))
    obtain ⟨y1, y2, y3, y4, y5⟩ := x13 j j2
    refine ⟨?_, by rw [Wl, if_neg j2], ?_, ?_, ?_, ?_, ?_, Wt _, Wt _, Wt _⟩
    · rw [wz, if_neg j2, x3]; exact cz 4 (by omega) (by omega) (by omega) (by omega) (by omega) (by omega) j
    · show W.2.1 6 j = _; rw [wA 6 (by omega) (by omega)]; exact y1.trans (cz 6 (by omega) (by omega) (by omega) (by omega) (by omega) (by omega) j)
    · show W.2.1 7 j = _; rw [wA 7 (by omega) (by omega)]; exact y2.trans (cz 7 (by omega) (by omega) (by omega) (by omega) (by omega) (by omega) j)
    · show W.2.1 8 j = _; rw [wA 8 (by omega) (by omega)]; exact y3.trans (cz 8 (by omega) (by omega) (by omega) (by omega) (by omega) (by omega) j)
    · show W.2.1 9 j = _; rw [wA 9 (by omega) (by omega)]; exact y4.trans (cz 9 (by omega) (by omega) (by omega) (by omega) (by omega) (by omega) j)
    · show W.2.1 10 j = _; rw [wA 10 (by omega) (by omega)]; exact y5.trans (cz 10 (by omega) (by omega) (by omega) (by omega) (by omega) (by omega) j)
  have g6 : (∀ i, vkd W i < 4) ∧ vkd W 0 = 0 ∧ (∀ i, vQ W * vG W < i → vkd W i = 0) ∧ (∀ i, 1 ≤ i → i < 12 → i ≠ 2 → vkd W i = 3) ∧ vkd W 2 = 2 ∧ ∀ i, 12 ≤ i → vkd W i ≠ 3 := by
    have eQ : vQ W = vQ C := congrFun WS 1
    have eG : vG W = vG C := congrFun WS 2
    refine ⟨fun i => ?_, ?_, fun i hi => ?_, fun i h1 h2 h3 => ?_, ?_, fun i hi => ?_⟩
    · rw [Wk]; split
      · omega
      · split <;> omega
    · rw [Wk, if_neg (by omega), if_neg (by omega)]
    · rw [eQ, eG] at hi
      rw [Wk, if_neg (by omega), if_neg (by omega)]
    · rw [Wk, if_neg h3, if_pos (by omega)]
    · rw [Wk, if_pos rfl]
    · rw [Wk, if_neg (by omega), if_neg (by omega)]; omega
  have g8 : ∀ i, live W i → i ≠ 2 → vkd W (vpar W i) = 2 ∧ vent W i ∈ itm (vdat W) (fl W (vpar W i)) ∧ rd4 (vdat W) (vent W i) = i := fun i hi h => absurd (lv i hi) h
  have g10 : ∀ i, vkd W i = 1 → vlk W i = 1 := fun i hi => by
    have := lv i (.inl hi)
    subst this
    rw [g6.2.2.2.2.1] at hi; omega
  have g11 : ∀ i, vkd W i = 2 → i ≠ 2 → vdp W (vpar W i) < vdp W i := fun i hi h => absurd (lv i (.inr hi)) h
  have g12 : ∀ x, vtm W x < 4294967296 := fun x => by rw [Wt]; omega
  have g14 : ∀ i, vkd W i = 2 → DirI nb W i := fun i hi => by
    have := lv i (.inr hi)
    subst this
    exact WDI
  exact ⟨Stc_S4 1 WA, CntI_S4 1 WI, CntD_S4 1 WD, g4, g5, g6, Wo, g8, Wp 2, g10, g11, g12, ⟨by show vI W < 4294967296; rw [WIv]; exact ci, rfl⟩, g14⟩
