def Cutd (nb : Nat) (V W : VV) (i n : Nat) : Prop := W.1 = V.1 ∧ vkd W = vkd V ∧ vsz W = vsz V ∧ vlk W = vlk V ∧ vpar W = vpar V ∧ vFI W = vFI V ∧ vtm W = vtm V ∧ vent W = vent V ∧ vdp W = vdp V ∧ vfi W = vfi V ∧ vdc W = vdc V ∧ ves W = ves V ∧
  (vdat W = vdat V ∧ voi W = voi V ∧ vok W = vok V ∧ vbl W = vbl V ∧ vrw W = vrw V) ∧
  (∀ j, j ≠ i → vmn W j = vmn V j ∧ vrn W j = vrn V j ∧ vtw W j = vtw V j ∧ vsg W j = vsg V j ∧ vdb W j = vdb V j) ∧ vmn W i = n ∧
  vsg W i = (if n ≤ 12 then 0 else vsg V i) ∧ vdb W i = (if n ≤ 268 then 0 else vdb V i) ∧ vrn W i = (if n ≤ 268 then 0 else vrn V i) ∧
  ∀ c, c < nb → vot W c = if voi V c = i ∧ (vot V c = 3 ∧ n ≤ vok V c ∨ vot V c = 4 ∧ n ≤ 12 ∨ (vot V c = 5 ∨ vot V c = 6) ∧ n ≤ 268) then 0 else vot V c
set_option maxRecDepth 4096 in
theorem Cutd_rfl {nb : Nat} {V : VV} (A : Stc nb V) {i : Nat} (hl : live V i) (P : Shp V i) : Cutd nb V V i (vmn V i) := by
  obtain ⟨B, C, O⟩ := A
  obtain ⟨P1, P2, P3, P4⟩ := P
  refine ⟨rfl, rfl, rfl, rfl, rfl, rfl, rfl, rfl, rfl, rfl, rfl, rfl, ⟨rfl, rfl, rfl, rfl, rfl⟩, fun _ _ => ⟨rfl, rfl, rfl, rfl, rfl⟩, rfl, ?_, ?_, ?_, fun c hc => ?_⟩
  · by_cases h : vmn V i ≤ 12
    · rw [if_pos h]; exact Decidable.byContradiction (fun e => by have := P1.mp e; omega)
    · rw [if_neg h]
  · by_cases h : vmn V i ≤ 268
    · rw [if_pos h]; exact Decidable.byContradiction (fun e => by have := P2.mp e; omega)
    · rw [if_neg h]
  · by_cases h : vmn V i ≤ 268
    · rw [if_pos h, P3, if_neg (by omega)]
    · rw [if_neg h]
  · rw [if_neg]
    obtain ⟨o1, o2, o3, o4, o5, o6, o7, o8⟩ := O
    have z := B.2.2.1
    rintro ⟨e, h | h | ⟨h | h, h'⟩⟩
    · have := (o2 c hc h.1).2.1; rw [e] at this; omega
    · have h4 := (o4 c hc h.1).2; rw [e] at h4
      have : c = 0 := Decidable.byContradiction (fun x => by have := P1.mp (by rw [h4]; exact x); omega)
      rw [this] at h; omega
    · have h4 := (o6 c hc h).2; rw [e] at h4
      have : c = 0 := Decidable.byContradiction (fun x => by have := P2.mp (by rw [h4]; exact x); omega)
      rw [this] at h; omega
    · have h4 := (o8 c hc h).2; rw [e, P3, if_neg (by omega)] at h4; omega
set_option maxRecDepth 4096 in
theorem Cutd_trans {nb : Nat} {V W X : VV} {i m n : Nat} (hmn : n ≤ m) (h : Cutd nb V W i m) (g : Cutd nb W X i n) : Cutd nb V X i n := by
  obtain ⟨a1, a2, a3, a4, a5, a6, a7, a8, a9, a10, a11, a12, ⟨a13, a14, a15, a16, a17⟩, a18, a19, a20, a21, a22, a23⟩ := h
  obtain ⟨b1, b2, b3, b4, b5, b6, b7, b8, b9, b10, b11, b12, ⟨b13, b14, b15, b16, b17⟩, b18, b19, b20, b21, b22, b23⟩ := g
  refine ⟨b1.trans a1, b2.trans a2, b3.trans a3, b4.trans a4, b5.trans a5, b6.trans a6, b7.trans a7, b8.trans a8, b9.trans a9, b10.trans a10, b11.trans a11, b12.trans a12, ⟨b13.trans a13, b14.trans a14, b15.trans a15, b16.trans a16, b17.trans a17⟩, fun j hj => ?_, b19, ?_, ?_, ?_, fun c hc => ?_⟩
  · obtain ⟨x1, x2, x3, x4, x5⟩ := a18 j hj; obtain ⟨y1, y2, y3, y4, y5⟩ := b18 j hj
    exact ⟨y1.trans x1, y2.trans x2, y3.trans x3, y4.trans x4, y5.trans x5⟩
  · rw [b20, a20]; by_cases h : n ≤ 12
    · rw [if_pos h, if_pos h]
    · rw [if_neg h, if_neg h, if_neg (by omega)]
  · rw [b21, a21]; by_cases h : n ≤ 268
    · rw [if_pos h, if_pos h]
    · rw [if_neg h, if_neg h, if_neg (by omega)]
  · rw [b22, a22]; by_cases h : n ≤ 268
    · rw [if_pos h, if_pos h]
    · rw [if_neg h, if_neg h, if_neg (by omega)]
  · rw [b23 c hc, a14, a15, a23 c hc]
    by_cases h : voi V c = i ∧ (vot V c = 3 ∧ m ≤ vok V c ∨ vot V c = 4 ∧ m ≤ 12 ∨ (vot V c = 5 ∨ vot V c = 6) ∧ m ≤ 268)
    · rw [if_pos h, if_pos (show voi V c = i ∧ (vot V c = 3 ∧ n ≤ vok V c ∨ vot V c = 4 ∧ n ≤ 12 ∨ (vot V c = 5 ∨ vot V c = 6) ∧ n ≤ 268) by omega), if_neg (by omega)]
    · rw [if_neg h]
noncomputable def dropB (V : VV) (i : Nat) : VV :=
  if vmn V i = 13 then lS (lB V i (vbl V i (vmn V i - 1))) i (vsg V i)
  else if vmn V i = 269 then lD (lR (lB V i (vbl V i (vmn V i - 1))) i (vrw V i 0)) i (vdb V i)
  else lB V i (vbl V i (vmn V i - 1))
set_option maxRecDepth 4096 in
theorem alln_ge (n : Nat) : n ≤ alln n := by unfold alln; omega
set_option maxRecDepth 4096 in
theorem dropB_S {nb : Nat} {V : VV} (A : Stc nb V) {i n : Nat} (h1 : 1 ≤ i) (h2 : i ≤ vQ V * vG V) (hl : live V i) (P : Shp V i) (hn : vmn V i = n + 1) :
    Stc nb (dropB V i) ∧ Shp (dropB V i) i ∧ nfb (dropB V i) = nfb V + cost n ∧ Cutd nb V (dropB V i) i n ∧
    ∀ (σ : XS) (d : Nat → Nat), Sc V σ → DX nb V d → ∃ d', DX nb (dropB V i) d' ∧ fXX4_dropBlock_6 nb (nI i) (nI n) (XD σ d) = some (XD σ d') := by
  have A0 := A
  obtain ⟨B, C, O⟩ := A
  have hg := G_lt B
  have hmn := mn_lt B O hl
  obtain ⟨P1, P2, P3, P4⟩ := P
  have hall := alln_lt (n := vmn V i) (by omega)
  have hall2 := alln_ge (vmn V i)
  obtain ⟨p0, p1, p2, p3, p4⟩ := O.1 i n hl (by omega)
  obtain ⟨b, hb⟩ : ∃ b, b = vbl V i n := ⟨_, rfl⟩
  have hb' : vbl V i (vmn V i - 1) = b := by rw [hb, hn]; rfl
  rw [← hb] at p0 p1 p2 p3 p4
  obtain ⟨A1, n1⟩ := Stc_lB A0 hl (by omega) hb'.symm
  have hl1 : live (lB V i b) i := by unfold live; rw [lB_kd]; exact hl
  have k1 : 12 ≤ n → n < 268 → vsg V i ≠ 0 := fun x y => P1.mpr (by omega)
  have k2 : 268 ≤ n → vdb V i ≠ 0 ∧ 0 < vrn V i := fun x => ⟨P2.mpr (by omega), by rw [P3, if_pos (by omega)]; omega⟩
  have hot : ∀ c, c < nb → (vot V c = 3 ∧ voi V c = i ∧ n ≤ vok V c ↔ c = b) := fun c hc => by
    constructor
    · rintro ⟨x, y, z⟩
      have := O.2.1 c hc x
      rw [y] at this
      have e : vok V c = n := by omega
      rw [e] at this; rw [hb]; exact this.2.2.symm
    · rintro rfl; exact ⟨p2, p3, by omega⟩
  have cl : ∀ (σ : XS) (d : Nat → Nat), Sc V σ → DX nb V d → ∃ d', DX nb (lB V i b) d' ∧ fXX4_lose_6 nb (nI (inoA (vP V) (vG V) i)) (nI (ptrA V i n)) (XD σ d) = some (XD σ d') ∧ fXX4_pointerAt_6 nb (nI (inoA (vP V) (vG V) i)) (nI n) (XD σ d) = some (nI (ptrA V i n), XD σ d) := fun σ d S D => by
    obtain ⟨d1, D1, f1⟩ := lB_X B S D C O h1 h2 hl (by omega) (by omega) hn k1 k2 hb
    exact ⟨d1, D1, f1, pointerAt_X B S D O h1 h2 hl (by omega) k1 k2⟩
  unfold dropB
  rw [hb']
  by_cases c12 : n = 12
  · rw [if_pos (by omega)]
    have hs := k1 (by omega) (by omega)
    have e2 : vsg (lB V i b) i = vsg V i := by rw [lB_sg]
    obtain ⟨A2, n2⟩ := Stc_lS A1 hl1 (by rw [e2]; exact hs) e2.symm
    obtain ⟨q1, q2, q3⟩ := O.2.2.1 i hl hs
    refine ⟨A2, ⟨?_, ?_, ?_, ?_⟩, ?_, ⟨?_, ?_, ?_, ?_, ?_, ?_, ?_, ?_, ?_, ?_, ?_, ?_, ⟨?_, ?_, ?_, ?_, ?_⟩, fun j hj => ?_, ?_, ?_, ?_, ?_, fun c hc => ?_⟩, ?_⟩
    · rw [lS_sg, lS_mn, if_pos rfl, lB_mn, if_pos rfl]; omega
    · rw [lS_db, lS_mn, lB_mn, if_pos rfl, lB_db, P2]; omega
    · rw [lS_rn, lS_mn, lB_mn, if_pos rfl, lB_rn, P3, hn, c12]; rfl
    · rw [lS_tw, if_pos rfl, lB_tw, if_pos rfl, lS_mn, lB_mn, if_pos rfl, P4, hn, c12]; rfl
    · rw [n2, n1, c12]; rfl
    · rw [lS_S, lB_S]
    · rw [lS_kd, lB_kd]
    · rw [lS_sz, lB_sz]
    · rw [lS_lk, lB_lk]
    · rw [lS_par, lB_par]
    · rw [lS_FI, lB_FI]
    · rw [lS_tm, lB_tm]
    · rw [lS_ent, lB_ent]
    · rw [lS_dp, lB_dp]
    · rw [lS_fi, lB_fi]
    · rw [lS_dc, lB_dc]
    · rw [lS_es, lB_es]
    · rw [lS_dat, lB_dat]
    · rw [lS_oi, lB_oi]
    · rw [lS_ok, lB_ok]
    · rw [lS_bl, lB_bl]
    · rw [lS_rw, lB_rw]
    · simp only [lS_mn, lS_rn, lS_tw, lS_sg, lS_db, lB_mn, lB_rn, lB_tw, lB_sg, lB_db, if_neg hj, and_self]
    · rw [lS_mn, lB_mn, if_pos rfl]; omega
    · rw [lS_sg, if_pos rfl, if_pos (by omega)]
    · rw [lS_db, lB_db, if_pos (by omega)]; exact Decidable.byContradiction (fun e => by have := P2.mp e; omega)
    · rw [lS_rn, lB_rn, P3, if_neg (by omega), if_pos (by omega)]
    · rw [lS_ot, lB_ot]
      have h3 := hot c hc
      have h4 : vot V c = 4 ∧ voi V c = i ↔ c = vsg V i := by
        constructor
        · rintro ⟨x, y⟩; have := (O.2.2.2.1 c hc x).2; rw [y] at this; exact this.symm
        · rintro rfl; exact ⟨q2, q3⟩
      have h5 : ¬ (voi V c = i ∧ vot V c = 5) := fun ⟨x, y⟩ => by
        have h6 := (O.2.2.2.2.2.1 c hc y).2
        rw [x] at h6
        have : c = 0 := Decidable.byContradiction (fun z => by have := P2.mp (by rw [h6]; exact z); omega)
        rw [this, B.2.2.1] at y; omega
      have h6 : ¬ (voi V c = i ∧ vot V c = 6) := fun ⟨x, y⟩ => by
        have h7 := (O.2.2.2.2.2.2.2 c hc y).2.1; rw [x, P3, if_neg (by omega)] at h7; omega
      by_cases e1 : c = vsg V i
      · rw [if_pos e1, if_pos (by have := h4.mpr e1; omega)]
      · rw [if_neg e1]
        by_cases e2 : c = b
        · rw [if_pos e2, if_pos (by have := h3.mpr e2; omega)]
        · rw [if_neg e2, if_neg]
          rintro ⟨x, y | y | ⟨y | y, z⟩⟩
          · exact e2 (h3.mp ⟨y.1, x, y.2⟩)
          · exact e1 (h4.mp ⟨y.1, x⟩)
          · exact h5 ⟨x, y⟩
          · exact h6 ⟨x, y⟩
    · intro σ d S D
      obtain ⟨d1, D1, f1, pa⟩ := cl σ d S D
      have e5 : vtw (lB V i b) i = vtw V i - 2 := by rw [lB_tw, if_pos rfl]
      obtain ⟨B1, C1, O1⟩ := A1
      obtain ⟨d2, D2, f2⟩ := lS_X B1 (Sc_of (lB_S V i b) S) D1 C1 O1 h1 (by rw [lB_Q, lB_G]; exact h2) hl1 (by omega) (by omega) (by rw [e2]; exact hs)
      rw [e2] at D2
      rw [lB_P, lB_G] at f2
      refine ⟨d2, D2, ?_⟩
      have ia := inodeAt_X B S d h1 (by omega)
      have br := beginsRow_X nb (XD σ d2) (n := n) (by omega)
      rw [if_neg (by omega)] at br
      simp (disch := omega) only [fXX4_dropBlock_6_53, fXX4_dropBlock_6_35, fXX4_dropBlock_6_0, fXX4_dropBlock_6, ia, lit, litN, nI_ltI', nI_leI', nI_eqI, nI_clampI, if_pos, if_neg, if_true, if_false, obs, pa, f1, nI_add, f2, br]
  · rw [if_neg (by omega)]
    by_cases c268 : n = 268
    · rw [if_pos (by omega)]
      obtain ⟨hs, hr⟩ := k2 (by omega)
      have hr1 : vrn V i = 1 := by rw [P3, if_pos (by omega)]
      obtain ⟨q1, q2, q3⟩ := O.2.2.2.2.1 i hl hs
      obtain ⟨r0, r1, r2, r3, r4⟩ := O.2.2.2.2.2.2.1 i 0 hl hr
      have f1 : vrn (lB V i b) i = 1 := by rw [lB_rn]; exact hr1
      have f2 : vrw (lB V i b) i 0 = vrw V i 0 := by rw [lB_rw]
      obtain ⟨A2, n2⟩ := Stc_lR (b := vrw V i 0) A1 hl1 (by omega) (by rw [f1]; exact f2.symm)
      have hl2 : live (lR (lB V i b) i (vrw V i 0)) i := by unfold live; rw [lR_kd]; exact hl1
      have e2 : vdb (lR (lB V i b) i (vrw V i 0)) i = vdb V i := by rw [lR_db, lB_db]
      obtain ⟨A3, n3⟩ := Stc_lD A2 hl2 (by rw [e2]; exact hs) e2.symm
      refine ⟨A3, ⟨?_, ?_, ?_, ?_⟩, ?_, ⟨?_, ?_, ?_, ?_, ?_, ?_, ?_, ?_, ?_, ?_, ?_, ?_, ⟨?_, ?_, ?_, ?_, ?_⟩, fun j hj => ?_, ?_, ?_, ?_, ?_, fun c hc => ?_⟩, ?_⟩
      · rw [lD_sg, lD_mn, lR_sg, lR_mn, lB_sg, lB_mn, if_pos rfl, P1]; omega
      · rw [lD_db, lD_mn, lR_mn, lB_mn, if_pos rfl, if_pos rfl]; omega
      · rw [lD_rn, lD_mn, lR_rn, lR_mn, if_pos rfl, lB_mn, if_pos rfl, f1, hn, c268]; rfl
      · rw [lD_tw, if_pos rfl, lR_tw, if_pos rfl, lB_tw, if_pos rfl, lD_mn, lR_mn, lB_mn, if_pos rfl, P4, hn, c268]; rfl
      · rw [n3, n2, n1, c268]; rfl
      · rw [lD_S, lR_S, lB_S]
      · rw [lD_kd, lR_kd, lB_kd]
      · rw [lD_sz, lR_sz, lB_sz]
      · rw [lD_lk, lR_lk, lB_lk]
      · rw [lD_par, lR_par, lB_par]
      · rw [lD_FI, lR_FI, lB_FI]
      · rw [lD_tm, lR_tm, lB_tm]
      · rw [lD_ent, lR_ent, lB_ent]
      · rw [lD_dp, lR_dp, lB_dp]
      · rw [lD_fi, lR_fi, lB_fi]
      · rw [lD_dc, lR_dc, lB_dc]
      · rw [lD_es, lR_es, lB_es]
      · rw [lD_dat, lR_dat, lB_dat]
      · rw [lD_oi, lR_oi, lB_oi]
      · rw [lD_ok, lR_ok, lB_ok]
      · rw [lD_bl, lR_bl, lB_bl]
      · rw [lD_rw, lR_rw, lB_rw]
      · simp only [lD_mn, lD_rn, lD_tw, lD_sg, lD_db, lR_mn, lR_rn, lR_tw, lR_sg, lR_db, lB_mn, lB_rn, lB_tw, lB_sg, lB_db, if_neg hj, and_self]
      · rw [lD_mn, lR_mn, lB_mn, if_pos rfl]; omega
      · rw [lD_sg, lR_sg, lB_sg, if_neg (by omega)]
      · rw [lD_db, if_pos rfl, if_pos (by omega)]
      · rw [lD_rn, lR_rn, if_pos rfl, f1, if_pos (by omega)]
      · rw [lD_ot, lR_ot, lB_ot]
        have h3 := hot c hc
        have h4 : vot V c = 5 ∧ voi V c = i ↔ c = vdb V i := by
          constructor
          · rintro ⟨x, y⟩; have := (O.2.2.2.2.2.1 c hc x).2; rw [y] at this; exact this.symm
          · rintro rfl; exact ⟨q2, q3⟩
        have h5 : vot V c = 6 ∧ voi V c = i ↔ c = vrw V i 0 := by
          constructor
          · rintro ⟨x, y⟩; have := (O.2.2.2.2.2.2.2 c hc x).2; rw [y, hr1] at this
            rw [show vok V c = 0 by omega] at this; exact this.2.symm
          · rintro rfl; exact ⟨r2, r3⟩
        by_cases e1 : c = vdb V i
        · rw [if_pos e1, if_pos (by have := h4.mpr e1; omega)]
        · rw [if_neg e1]
          by_cases e3 : c = vrw V i 0
          · rw [if_pos e3, if_pos (by have := h5.mpr e3; omega)]
          · rw [if_neg e3]
            by_cases e2 : c = b
            · rw [if_pos e2, if_pos (by have := h3.mpr e2; omega)]
            · rw [if_neg e2, if_neg]
              rintro ⟨x, y | y | ⟨y | y, z⟩⟩
              · exact e2 (h3.mp ⟨y.1, x, y.2⟩)
              · omega
              · exact e1 (h4.mp ⟨y, x⟩)
              · exact e3 (h5.mp ⟨y, x⟩)
      · intro σ d S D
        obtain ⟨d1, D1, g1, pa⟩ := cl σ d S D
        have e5 : vtw (lB V i b) i = vtw V i - 2 := by rw [lB_tw, if_pos rfl]
        have e6 : vtw (lR (lB V i b) i (vrw V i 0)) i = vtw V i - 4 := by rw [lR_tw, if_pos rfl, e5]; omega
        obtain ⟨B1, C1, O1⟩ := A1
        obtain ⟨B2, C2, O2⟩ := A2
        have S1 : Sc (lB V i b) σ := Sc_of (lB_S V i b) S
        have S2 : Sc (lR (lB V i b) i (vrw V i 0)) σ := Sc_of (lR_S _ _ _) S1
        have e7 : vdb (lB V i b) i = vdb V i := by rw [lB_db]
        have ra := rowPointerAt_X B1 S1 D1 O1 (n := n) h1 (by rw [lB_Q, lB_G]; exact h2) hl1 (by omega) (by omega) (by omega)
        obtain ⟨d2, D2, g2⟩ := lR_X B1 S1 D1 C1 O1 h1 (by rw [lB_Q, lB_G]; exact h2) hl1 (by omega) (by omega) (by rw [e7]; exact hs) f1 f2.symm
        obtain ⟨d3, D3, g3⟩ := lD_X B2 S2 D2 C2 O2 h1 (by rw [lR_Q, lR_G, lB_Q, lB_G]; exact h2) hl2 (by omega) (by omega) (by rw [e2]; exact hs)
        rw [e2] at D3
        rw [lR_P, lR_G, lB_P, lB_G] at g3
        rw [lB_P, lB_G] at g2 ra
        refine ⟨d3, D3, ?_⟩
        have ia := inodeAt_X B S d h1 (by omega)
        have br := beginsRow_X nb (XD σ d1) (n := n) (by omega)
        rw [if_pos (by omega)] at br
        simp (disch := omega) only [fXX4_dropBlock_6_53, fXX4_dropBlock_6_35, fXX4_dropBlock_6_0, fXX4_dropBlock_6, ia, lit, litN, nI_ltI', nI_leI', nI_eqI, nI_clampI, if_pos, if_neg, if_true, if_false, obs, pa, g1, nI_add, g2, br, ra, g3]
    · rw [if_neg (by omega)]
      refine ⟨A1, ⟨?_, ?_, ?_, ?_⟩, ?_, ⟨lB_S .., lB_kd .., lB_sz .., lB_lk .., lB_par .., lB_FI .., lB_tm .., lB_ent .., lB_dp .., lB_fi .., lB_dc .., lB_es .., ⟨lB_dat .., lB_oi .., lB_ok .., lB_bl .., lB_rw ..⟩, fun j hj => ?_, ?_, ?_, ?_, ?_, fun c hc => ?_⟩, ?_⟩
      · rw [lB_sg, lB_mn, if_pos rfl, P1]; omega
      · rw [lB_db, lB_mn, if_pos rfl, P2]; omega
      · rw [lB_rn, lB_mn, if_pos rfl, P3]; split <;> split <;> omega
      · rw [lB_tw, if_pos rfl, lB_mn, if_pos rfl, P4, hn, cost_alln (by omega)]; unfold cost; rw [if_neg c12, if_neg c268, Nat.add_sub_cancel]; omega
      · rw [n1]; unfold cost; rw [if_neg c12, if_neg c268]
      · rw [lB_mn, lB_rn, lB_tw, lB_sg, lB_db, if_neg hj, if_neg hj]; exact ⟨rfl, rfl, rfl, rfl, rfl⟩
      · rw [lB_mn, if_pos rfl]; omega
      · rw [lB_sg]; by_cases e : n ≤ 12
        · rw [if_pos e]; exact Decidable.byContradiction (fun x => by have := P1.mp x; omega)
        · rw [if_neg e]
      · rw [lB_db]; by_cases e : n ≤ 268
        · rw [if_pos e]; exact Decidable.byContradiction (fun x => by have := P2.mp x; omega)
        · rw [if_neg e]
      · rw [lB_rn]; by_cases e : n ≤ 268
        · rw [if_pos e, P3, if_neg (by omega)]
        · rw [if_neg e]
      · rw [lB_ot]
        have h3 := hot c hc
        have cr := (Cutd_rfl A0 hl ⟨P1, P2, P3, P4⟩).2.2.2.2.2.2.2.2.2.2.2.2.2.2.2.2.2.2 c hc
        by_cases e2 : c = b
        · rw [if_pos e2, if_pos (by have := h3.mpr e2; omega)]
        · rw [if_neg e2, if_neg]
          rintro ⟨x, y⟩
          rw [if_pos] at cr
          · omega
          · refine ⟨x, ?_⟩
            rcases y with y | y | y
            · exact absurd (h3.mp ⟨y.1, x, y.2⟩) e2
            · right; left; omega
            · right; right; omega
      · intro σ d S D
        obtain ⟨d1, D1, f1, pa⟩ := cl σ d S D
        refine ⟨d1, D1, ?_⟩
        have ia := inodeAt_X B S d h1 (by omega)
        have br := beginsRow_X nb (XD σ d1) (n := n) (by omega)
        rw [if_neg (by omega)] at br
        simp (disch := omega) only [fXX4_dropBlock_6_53, fXX4_dropBlock_6_35, fXX4_dropBlock_6_0, fXX4_dropBlock_6, ia, lit, litN, nI_ltI', nI_leI', nI_eqI, nI_clampI, if_pos, if_neg, if_true, if_false, obs, pa, f1, nI_add, br]
