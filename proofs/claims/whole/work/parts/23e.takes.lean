-- eleven inodes are taken
def After (nb : Nat) (U V : VV) (k : Nat) : Prop := V.1 = U.1 ∧ (∀ i, vkd V i = if 1 ≤ i ∧ i < k then 3 else 0) ∧ (∀ m, m ≠ 3 → m ≠ 13 → V.2.1 m = U.2.1 m) ∧ (∀ m, m ≠ 3 → V.2.2.1 m = U.2.2.1 m) ∧ V.2.2.2 = U.2.2.2 ∧ CntI V
set_option maxRecDepth 4096 in
theorem takes_X {nb : Nat} {U : VV} (B : Bas nb U) {σ : XS} (S : Sc U σ) {d : Nat → Nat} (D : DX nb U d) (C : CntI U) (hk : ∀ i, vkd U i = 0) :
    ∃ V d', After nb U V 12 ∧ DX nb V d' ∧ lfix (fun k67 t => fXX0_format_0_67 nb k67 t.1 t.2) FU (nI 1, XD σ d) = fXX0_format_0_67 nb (fun _ => none) (nI 12) (XD σ d') := by
  have hg := G_lt B
  have key : ∃ s : VV × (Nat → Nat), (1 ≤ 12 ∧ After nb U s.1 12 ∧ DX nb s.1 s.2) ∧ ∀ u : Unit, lfix ((fun _ k67 t => fXX0_format_0_67 nb k67 t.1 t.2) u) FU (nI 1, XD σ d) = fXX0_format_0_67 nb (fun _ => none) (nI 12) (XD σ s.2) := by
    refine lfor (κ := Unit) (fun _ k67 t => fXX0_format_0_67 nb k67 t.1 t.2) (fun k (s : VV × (Nat → Nat)) => (nI k, XD σ s.2)) (fun _ s => fXX0_format_0_67 nb (fun _ => none) (nI 12) (XD σ s.2)) 12 (fun k s => 1 ≤ k ∧ After nb U s.1 k ∧ DX nb s.1 s.2) ?_ ?_ 1 (U, d) FU (by omega) ⟨by omega, ⟨rfl, fun i => by rw [if_neg (by omega)]; exact hk i, fun _ _ _ => rfl, fun _ _ => rfl, rfl, C⟩, D⟩ (by unfold FU; omega)
    · rintro k ⟨V, e⟩ hk12 ⟨k1, ⟨a1, a2, a3, a4, a5, a6⟩, D'⟩
      have D' : DX nb V e := D'
      have a1 : V.1 = U.1 := a1
      have a2 : ∀ i, vkd V i = if 1 ≤ i ∧ i < k then 3 else 0 := a2
      have a6 : CntI V := a6
      have BV : Bas nb V := Bas_of a1 (a3 0 (by omega) (by omega)) B
      have SV : Sc V σ := Sc_of a1 S
      have eQ : vQ V = vQ U := congrFun a1 1
      have eG : vG V = vG U := congrFun a1 2
      have lo : lowI V k := ⟨k1, by rw [a2, if_neg (by omega)], fun c c1 c2 => by rw [a2, if_pos (by omega)]; omega⟩
      obtain ⟨e', D2, C2, _, tk⟩ := take5_C BV SV D' a6 (b := k) (by rw [eQ, eG]; omega) lo
      refine ⟨(tkI V k, e'), ⟨by omega, ⟨(tkI_s V k).trans a1, fun i => ?_, fun m m3 m13 => (tkI_a V k m3 m13).trans (a3 m m3 m13), fun m m3 => (tkI_t V k m3).trans (a4 m m3), (tkI_e V k).trans a5, C2⟩, D2⟩, fun _ K => ?_⟩
      · show vkd (tkI V k) i = _
        rw [tkI_k, a2]
        by_cases c : i = k
        · rw [if_pos c, if_pos (by omega)]
        · rw [if_neg c]
          by_cases c2 : 1 ≤ i ∧ i < k
          · rw [if_pos c2, if_pos (by omega)]
          · rw [if_neg c2, if_neg (by omega)]
      · show fXX0_format_0_67 nb K (nI k) (XD σ e) = K (nI (k + 1), XD σ e')
        simp (disch := omega) only [fXX0_format_0_67, lit, litN, nI_ltI', if_neg, tk, obs, nI_add]
    · rintro ⟨V, e⟩ _ _ K
      show fXX0_format_0_67 nb K (nI 12) (XD σ e) = fXX0_format_0_67 nb (fun _ => none) (nI 12) (XD σ e)
      simp (disch := omega) only [fXX0_format_0_67, lit, litN, nI_ltI', if_pos]
  obtain ⟨⟨V, d'⟩, ⟨_, h1, h2⟩, h⟩ := key
  exact ⟨V, d', h1, h2, h ()⟩
-- the root begins
def bgV (V : VV) : VV := cnD (setA (setA V 3 2 2) 5 2 2) ((2 - 1) / vG V) 1 (vQ V)
set_option maxRecDepth 4096 in
theorem bg_Pre {nb P Q G : Nat} (L : Lay nb P Q G) {I M : Nat} (hI : I < 4294967296) {V : VV} (H : After nb (V0 nb P Q G I M) V 12) : Pre nb (bgV V) ∧ (bgV V).1 = (V0 nb P Q G I M).1 ∧ vot (bgV V) = o0 nb P G := by
  obtain ⟨a1, a2, a3, a4, a5, a6⟩ := H
  have B0 := V0_B L I M
  have hg := G_lt B0
  have eQ : vQ V = Q := congrFun a1 1
  have eG : vG V = G := congrFun a1 2
  have hgG : 8 ≤ G := hg.1
  have x0 : (2 - 1) / vG V = 0 := by rw [eG]; exact Nat.div_eq_of_lt (by omega)
  have bs : (bgV V).1 = V.1 := cnD_s _ _ _ _
  have ba : ∀ k, k ≠ 3 → k ≠ 5 → (bgV V).2.1 k = V.2.1 k := fun k k3 k5 => by
    unfold bgV; rw [cnD_a, setA_o _ _ _ k5, setA_o _ _ _ k3]
  have bk : ∀ i, vkd (bgV V) i = if i = 2 then 2 else if 1 ≤ i ∧ i ≤ 11 then 3 else 0 := fun i => by
    show (bgV V).2.1 3 i = _
    unfold bgV; rw [cnD_a, setA_o _ _ _ (by omega), setA_i]
    show (if i = 2 then 2 else vkd V i) = _
    rw [a2]
    by_cases c : 1 ≤ i ∧ i < 12
    · rw [if_pos c, if_pos (c := 1 ≤ i ∧ i ≤ 11) (by omega)]
    · rw [if_neg c, if_neg (c := 1 ≤ i ∧ i ≤ 11) (by omega)]
  have bl : ∀ i, vlk (bgV V) i = if i = 2 then 2 else 0 := fun i => by
    show (bgV V).2.1 5 i = _
    unfold bgV; rw [cnD_a, setA_i, setA_o _ _ _ (by omega), a3 5 (by omega) (by omega)]; rfl
  have bt : ∀ k, k ≠ 4 → (bgV V).2.2.1 k = V.2.2.1 k := fun k hk => cnD_t _ _ _ _ hk
  have bd : ∀ y x, vdc (bgV V) y x = if y < Q ∧ x = 0 then 1 else 0 := fun y x => by
    unfold bgV; rw [cnD_d, x0, eQ]
    have : vdc (setA (setA V 3 2 2) 5 2 2) y x = 0 := by show V.2.2.1 4 y x = 0; rw [a4 4 (by omega)]; rfl
    rw [this]
  have bo : vot (bgV V) = o0 nb P G := (ba 0 (by omega) (by omega)).trans (a3 0 (by omega) (by omega))
  have bS : (bgV V).1 = (V0 nb P Q G I M).1 := bs.trans a1
  have bz : ∀ k, k ≠ 0 → k ≠ 3 → k ≠ 5 → k ≠ 11 → k ≠ 12 → k ≠ 13 → ∀ i, (bgV V).2.1 k i = 0 := fun k k0 k3 k5 k11 k12 k13 i => by
    rw [ba k k3 k5, a3 k k3 k13]; exact V0_z nb P Q G I M k0 k11 k12 k13 i
  have bB : Bas nb (bgV V) := Bas_of bS bo B0
  obtain ⟨bCB, bnf⟩ := CntB_of (V := V0 nb P Q G I M) (W := bgV V) bS ((ba 12 (by omega) (by omega)).trans (a3 12 (by omega) (by omega))) ((bt 2 (by omega)).trans (a4 2 (by omega))) (fun c => by rw [bo]; exact Iff.rfl) (V0_CB nb P Q G I M)
  have o3 : ∀ b, vot (bgV V) b = 7 ∨ vot (bgV V) b = 2 ∨ vot (bgV V) b = 0 := fun b => by rw [bo]; exact o0_3
  have bO : OwnC nb (bgV V) := by
    have m0 : ∀ i, vmn (bgV V) i = 0 := bz 6 (by omega) (by omega) (by omega) (by omega) (by omega) (by omega)
    have r0 : ∀ i, vrn (bgV V) i = 0 := bz 7 (by omega) (by omega) (by omega) (by omega) (by omega) (by omega)
    have s0 : ∀ i, vsg (bgV V) i = 0 := bz 9 (by omega) (by omega) (by omega) (by omega) (by omega) (by omega)
    have d0 : ∀ i, vdb (bgV V) i = 0 := bz 10 (by omega) (by omega) (by omega) (by omega) (by omega) (by omega)
    exact ⟨fun i k _ h => by rw [m0] at h; omega, fun b _ h => by have := o3 b; omega, fun i _ h => absurd (s0 i) h, fun b _ h => by have := o3 b; omega, fun i _ h => absurd (d0 i) h, fun b _ h => by have := o3 b; omega, fun i k _ h => by rw [r0] at h; omega, fun b _ h => by have := o3 b; omega⟩
  have bCI : CntI (bgV V) := CntI_of (V := V) bs (ba 13 (by omega) (by omega)) (bt 3 (by omega)) (fun j => by
    rw [bk, a2]
    by_cases c : j = 2
    · subst c; rw [if_pos rfl, if_pos (by omega)]; omega
    · rw [if_neg c]
      by_cases c2 : 1 ≤ j ∧ j ≤ 11
      · rw [if_pos c2, if_pos (by omega)]
      · rw [if_neg c2, if_neg (by omega)]) a6
  have bCD : CntD (bgV V) := fun y hy x hx => by
    have hQ : vQ (bgV V) = Q := congrFun bS 1
    have hG : vG (bgV V) = G := congrFun bS 2
    rw [hQ] at hy hx
    rw [bd]
    unfold ndcg
    rw [hG]
    by_cases c : x = 0
    · subst c
      rw [if_pos ⟨hy, rfl⟩]
      have nu := num_upd (p := fun _ => 0) (q := fun k => pdc (bgV V) (0 * G + k + 1)) (j := 1) (n := G) (by omega) (fun k _ hk => by
        show pdc (bgV V) (0 * G + k + 1) = 0
        unfold pdc; rw [bk, if_neg (c := 0 * G + k + 1 = 2) (by omega)]
        rw [if_neg]
        split <;> omega)
      have e1 : pdc (bgV V) (0 * G + 1 + 1) = 1 := by unfold pdc; rw [bk, if_pos (c := 0 * G + 1 + 1 = 2) (by omega), if_pos rfl]
      have z : num (fun _ => 0) G = 0 := num_zero (n := 0) (Nat.zero_le _) (fun _ _ _ => rfl)
      have nu : num (fun k => pdc (bgV V) (0 * G + k + 1)) G + 0 = num (fun _ => 0) G + pdc (bgV V) (0 * G + 1 + 1) := nu
      rw [e1, z] at nu; omega
    · rw [if_neg (fun z => c z.2)]
      refine (num_zero (n := 0) (Nat.zero_le _) (fun j _ _ => ?_)).symm
      have : 1 * G ≤ x * G := Nat.mul_le_mul_right _ (by omega)
      show pdc (bgV V) (x * G + j + 1) = 0
      unfold pdc; rw [bk, if_neg (c := x * G + j + 1 = 2) (by omega), if_neg]
      split <;> omega
  refine ⟨⟨⟨bB, bCB, bO⟩, bk, bCI, bCD, bz, bl, fun i => ?_, fun b => ?_, ?_, ?_⟩, bS, bo⟩
  · show (bgV V).2.1 11 i = 2
    rw [ba 11 (by omega) (by omega), a3 11 (by omega) (by omega)]; rfl
  · rw [bo]
    unfold o0
    by_cases c : b = 0 ∨ nb ≤ b
    · rw [if_pos c]; exact ⟨by omega, fun h1 h2 => by omega⟩
    · rw [if_neg c]; split
      · exact okt_s (by omega) (by omega)
      · exact okt_s (by omega) (by omega)
  · have : vI (bgV V) = I := congrFun bS 3
    rw [this]; exact hI
  · rw [bnf]
    have hgr := L.grp (x := 0) (by have := L.2.2.2.1; omega)
    have hP := L.2.2.2.2.2.2.2.1
    refine (nfb_ge B0 (b := 1 + (4 + G / 8)) (by omega) (by omega) ?_).1
    show o0 nb P G (1 + (4 + G / 8)) = 0
    unfold o0
    rw [if_neg (by omega), if_neg]
    rw [show 1 + (4 + G / 8) - 1 = 4 + G / 8 by omega, Nat.mod_eq_of_lt (by omega)]; omega
set_option maxRecDepth 4096 in
theorem rootX_X {nb P Q G : Nat} (L : Lay nb P Q G) {I M : Nat} (hI : I < 4294967296) {V : VV} (H : After nb (V0 nb P Q G I M) V 12) {σ : XS} (S : Sc (V0 nb P Q G I M) σ) {d : Nat → Nat} (D : DX nb V d) :
    ∃ d', DX nb (setS (rtV (bgV V) (vbl (addB (bgV V) 2) 2 0)) 4 1) d' ∧ fXX0_format_0_67 nb (fun _ => none) (nI 12) (XD σ d) = some (0, nI (nfb (setS (rtV (bgV V) (vbl (addB (bgV V) 2) 2 0)) 4 1)), XD (stS (stS σ 0 (nI 1)) 1 (nI 2)) d') := by
  obtain ⟨pr, bS, bo⟩ := bg_Pre L hI H
  obtain ⟨GW, hb1, hb2, hb3⟩ := root_G pr
  obtain ⟨l2, P2, m2, z2, hf2⟩ := Pre_P pr
  obtain ⟨a1, a2, a3, a4, a5, a6⟩ := H
  have B0 := V0_B L I M
  have hg := G_lt B0
  have BV : Bas nb V := Bas_of a1 (a3 0 (by omega) (by omega)) B0
  have SV : Sc V σ := Sc_of a1 S
  have hgV := G_lt BV
  have nbh : nb ≤ 512 := hgV.2.2.2.2.2.2.2.2.1
  have zr : ∀ k, k ≠ 0 → k ≠ 3 → k ≠ 11 → k ≠ 12 → k ≠ 13 → ∀ i, V.2.1 k i = 0 := fun k k0 k3 k11 k12 k13 i => by
    rw [a3 k k3 k13]; exact V0_z nb P Q G I M k0 k11 k12 k13 i
  obtain ⟨d1, D1, be⟩ := begin_X (t := 2) (y := nI 1) (i := 2) BV SV D (by omega) (by omega) (by rw [a2, if_pos (by omega)]) (.inr rfl) rfl ⟨zr 4 (by omega) (by omega) (by omega) (by omega) (by omega) 2, zr 5 (by omega) (by omega) (by omega) (by omega) (by omega) 2, zr 6 (by omega) (by omega) (by omega) (by omega) (by omega) 2, zr 8 (by omega) (by omega) (by omega) (by omega) (by omega) 2, zr 9 (by omega) (by omega) (by omega) (by omega) (by omega) 2, zr 10 (by omega) (by omega) (by omega) (by omega) (by omega) 2, zr 16 (by omega) (by omega) (by omega) (by omega) (by omega) _, zr 16 (by omega) (by omega) (by omega) (by omega) (by omega) _, zr 16 (by omega) (by omega) (by omega) (by omega) (by omega) _⟩
  have BF : Bas nb (setA (setA V 3 2 2) 5 2 2) := Bas_of (V := V) rfl (by show (setA (setA V 3 2 2) 5 2 2).2.1 0 = _; rw [setA_o _ _ _ (by omega), setA_o _ _ _ (by omega)]) BV
  have SF : Sc (setA (setA V 3 2 2) 5 2 2) σ := SV
  obtain ⟨d2, D2, cd⟩ := countD_X (i := 2) BF SF D1 (by omega) (show 2 ≤ vQ V * vG V by omega) (f := 0) (w := 1) (δ := nI 1) (fun y hy => by show V.2.2.1 4 y _ = 0; rw [a4 4 (by omega)]; rfl) (by omega) (nI_add 0 1)
  have D2 : DX nb (bgV V) d2 := D2
  have SB : Sc (bgV V) σ := Sc_of bS S
  have BB := pr.1.1
  have hgB := G_lt BB
  obtain ⟨d3, D3, ad⟩ := addDir_X pr.1 (i := 2) (by omega) (by omega) l2 P2 hf2 (by rw [z2, m2]) σ d2 SB D2
  rw [m2] at ad D3
  have ld := layDots_X σ d3 nbh hb1 2 2
  generalize hb : vbl (addB (bgV V) 2) 2 0 = b at *
  have D4 : DX nb (setR (setA (addB (bgV V) 2) 4 2 1024) 15 (dotW (vdat (addB (bgV V) 2)) b 2 2)) (dotC b 2 2 d3) := by
    have := DX_loc D3 (b := b) (G := dotC b 2 2) hb1 (by show (setA (addB (bgV V) 2) 4 2 (1024 * (0 + 1))).2.1 0 b = 3; rw [setA_o _ _ _ (by omega)]; exact hb2) (Loc_dotC b 2 2)
    rw [show dotC b 2 2 (vdat (setA (addB (bgV V) 2) 4 2 (1024 * (0 + 1)))) = dotW (vdat (addB (bgV V) 2)) b 2 2 from dotC_eq (fun o ho => hb3 o ho)] at this
    exact this
  have D5 := DX_S4 1 (DX_E 2 0 [1024 * b, 1024 * b + 12] D4)
  have D5 : DX nb (setS (rtV (bgV V) b) 4 1) (dotC b 2 2 d3) := D5
  have SW : Sc (setS (rtV (bgV V) b) 4 1) (stS (stS σ 0 (nI 1)) 1 (nI 2)) := by
    have e : ∀ k, k ≠ 4 → (setS (rtV (bgV V) b) 4 1).1 k = (addB (bgV V) 2).1 k := fun k hk => if_neg hk
    have e2 : (addB (bgV V) 2).1 = (bgV V).1 := (addB_S pr.1 (i := 2) (by omega) (by omega) l2 P2 hf2).2.2.2.2.1.1
    unfold Sc vP vQ vG
    rw [e 0 (by omega), e 1 (by omega), e 2 (by omega), e2]
    exact SB
  have fr := free4_C GW.1.1 SW D5 GW.1.2.1
  refine ⟨dotC b 2 2 d3, D5, ?_⟩
  simp (disch := omega) only [fXX0_format_0_67, lit, litN, nI_ltI', if_pos, be, obs, cd, ad, ld, XD_S, fr]
