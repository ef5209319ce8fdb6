set_option maxRecDepth 4096 in
theorem gv_t {V : VV} {b c : Nat} : vot (gvB V b) c = if c = b then 0 else vot V c := mkB_t V b 0 _ _ c
set_option maxRecDepth 4096 in
theorem gv_a {V : VV} {b k : Nat} (h : k ≠ 0) (h2 : k ≠ 12) : (gvB V b).2.1 k = V.2.1 k := mkB_a _ _ _ _ _ h h2
set_option maxRecDepth 4096 in
theorem gv_m {V : VV} {b k : Nat} (h : k ≠ 2) : (gvB V b).2.2.1 k = V.2.2.1 k := mkB_m _ _ _ _ _ h
set_option maxRecDepth 4096 in
theorem gv_s {V : VV} {b : Nat} : (gvB V b).1 = V.1 := mkB_s _ _ _ _ _
set_option maxRecDepth 4096 in
theorem lose_X {nb : Nat} {V : VV} {d : Nat → Nat} {σ : XS} (B : Bas nb V) (S : Sc V σ) (D : DX nb V d) (C : CntB V) {i b a : Nat} (V3 : VV) (hb1 : 1 ≤ b) (hb : b < nb) (ht0 : vot V b ≠ 0) (ht2 : vot V b ≠ 2) (h1 : 1 ≤ i) (h2 : i ≤ vQ V * vG V) (hl : live V i) (htw : 2 ≤ vtw V i) (htw2 : vtw V i < 2147483000)
    (ha : a + 3 < nb * 1024) (hr : rd4 d a = b) (hput : ∀ d1, DX nb (gvB V b) d1 → DX nb V3 (wrN d1 a 4 0)) (e1 : V3.1 = V.1) (e2 : ∀ c, vot V3 c = vot (gvB V b) c) (e3 : vkd V3 = vkd V) (e4 : vtw V3 = vtw V) :
    ∃ d', DX nb (setA V3 8 i (vtw V i - 2)) d' ∧ fXX4_lose_6 nb (nI (inoA (vP V) (vG V) i)) (nI a) (XD σ d) = some (XD σ d') := by
  have hg := G_lt B
  obtain ⟨d1, D1, B1, C1, _, hT⟩ := give4_C B S D C hb1 hb ht0 ht2
  have D3 := hput _ D1
  have eP : vP V3 = vP V := congrFun e1 0
  have eQ : vQ V3 = vQ V := congrFun e1 1
  have eG : vG V3 = vG V := congrFun e1 2
  have B3 : Bas nb V3 := Bas_g B e1 (t := 0) (b := b) (fun c => by rw [e2, gv_t]) hb1 hb ht2 (by omega)
  have hl3 : live V3 i := by unfold live; rw [e3]; exact hl
  have h23 : i ≤ vQ V3 * vG V3 := by rw [eQ, eG]; exact h2
  have r := rd_tw B3 D3 h1 h23 hl3 (by rw [e4]; omega)
  have D4 := DX_tw B3 D3 h1 h23 hl3 (vtw V i - 2)
  rw [eP, eG] at r D4
  rw [e4] at r
  refine ⟨_, D4, ?_⟩
  have hA := inoA_lt B h1 h2
  simp (disch := omega) only [fXX4_lose_6_0, fXX4_lose_6, get4_X, obs, lit, litN, hr, hT, nI_add, put4_X, wr4_N, r, nI_sub]
set_option maxRecDepth 4096 in
theorem CntB_gv {nb : Nat} {V W : VV} (B : Bas nb V) (C : CntB V) {b : Nat} (hb1 : 1 ≤ b) (hb : b < nb) (ht : vot V b ≠ 0) (e : W.1 = V.1) (h1 : vFB W = vFB (gvB V b)) (h2 : vfb W = vfb (gvB V b)) (ho : ∀ c, vot W c = if c = b then 0 else vot V c) : CntB W ∧ nfb W = nfb V + 1 := by
  have hp : pfb V b = 0 := by unfold pfb; rw [if_neg ht]
  obtain ⟨c1, c2⟩ := CntB_mkB B C (t := 0) (F := nfb V + 1) (f := nfbg V ((b - 1) / vP V) + 1) hb1 hb (by simp only [hp, if_true]) (by simp only [hp, if_true])
  have := CntB_of (V := gvB V b) (W := W) (e.trans (mkB_s _ _ _ _ _).symm) h1 h2 (fun c => by
    rw [ho, gv_t]) c1
  refine ⟨this.1, ?_⟩
  rw [this.2]; exact c2
set_option maxRecDepth 4096 in
theorem Stc_lS {nb : Nat} {V : VV} (A : Stc nb V) {i b : Nat} (hl : live V i) (h0 : vsg V i ≠ 0) (hb : b = vsg V i) : Stc nb (lS V i b) ∧ nfb (lS V i b) = nfb V + 1 := by
  obtain ⟨B, C, O⟩ := A
  obtain ⟨q1, q2, q3⟩ := O.2.2.1 i hl h0
  rw [← hb] at q1 q2 q3 h0
  have c := CntB_gv (W := lS V i b) B C (by omega) q1 (by omega) (lS_S V i b) rfl rfl (lS_ot V i b)
  refine ⟨⟨Bas_g B (lS_S V i b) (lS_ot V i b) (by omega) q1 (by omega) (by omega), c.1, ?_⟩, c.2⟩
  obtain ⟨o1, o2, o3, o4, o5, o6, o7, o8⟩ := O
  unfold OwnC live
  simp only [lS_ot, lS_oi, lS_ok, lS_kd, lS_mn, lS_rn, lS_sg, lS_db, lS_bl, lS_rw]
  have z := B.2.2.1
  have l3 := h0
  clear B C c l3; unfold live at *; generalize vot V = ot at *; generalize voi V = oi at *; generalize vok V = ok at *; generalize vkd V = kd at *; generalize vmn V = mn at *; generalize vrn V = rn at *; generalize vsg V = sg at *; generalize vdb V = db at *; generalize vbl V = bl at *; generalize vrw V = rw at *; try clear V
  refine ⟨?_, ?_, ?_, ?_, ?_, ?_, ?_, ?_⟩ <;> grind
set_option maxRecDepth 4096 in
theorem Stc_lD {nb : Nat} {V : VV} (A : Stc nb V) {i b : Nat} (hl : live V i) (h0 : vdb V i ≠ 0) (hb : b = vdb V i) : Stc nb (lD V i b) ∧ nfb (lD V i b) = nfb V + 1 := by
  obtain ⟨B, C, O⟩ := A
  obtain ⟨q1, q2, q3⟩ := O.2.2.2.2.1 i hl h0
  rw [← hb] at q1 q2 q3 h0
  have c := CntB_gv (W := lD V i b) B C (by omega) q1 (by omega) (lD_S V i b) rfl rfl (lD_ot V i b)
  refine ⟨⟨Bas_g B (lD_S V i b) (lD_ot V i b) (by omega) q1 (by omega) (by omega), c.1, ?_⟩, c.2⟩
  obtain ⟨o1, o2, o3, o4, o5, o6, o7, o8⟩ := O
  unfold OwnC live
  simp only [lD_ot, lD_oi, lD_ok, lD_kd, lD_mn, lD_rn, lD_sg, lD_db, lD_bl, lD_rw]
  have z := B.2.2.1
  have l3 := h0
  clear B C c l3; unfold live at *; generalize vot V = ot at *; generalize voi V = oi at *; generalize vok V = ok at *; generalize vkd V = kd at *; generalize vmn V = mn at *; generalize vrn V = rn at *; generalize vsg V = sg at *; generalize vdb V = db at *; generalize vbl V = bl at *; generalize vrw V = rw at *; try clear V
  refine ⟨?_, ?_, ?_, ?_, ?_, ?_, ?_, ?_⟩ <;> grind
set_option maxRecDepth 4096 in
theorem Stc_lR {nb : Nat} {V : VV} (A : Stc nb V) {i b : Nat} (hl : live V i) (h0 : 1 ≤ vrn V i) (hb : b = vrw V i (vrn V i - 1)) : Stc nb (lR V i b) ∧ nfb (lR V i b) = nfb V + 1 := by
  obtain ⟨B, C, O⟩ := A
  obtain ⟨q0, q1, q2, q3, q4⟩ := O.2.2.2.2.2.2.1 i (vrn V i - 1) hl (by omega)
  rw [← hb] at q0 q1 q2 q3 q4
  have c := CntB_gv (W := lR V i b) B C (by omega) q1 (by omega) (lR_S V i b) rfl rfl (lR_ot V i b)
  refine ⟨⟨Bas_g B (lR_S V i b) (lR_ot V i b) (by omega) q1 (by omega) (by omega), c.1, ?_⟩, c.2⟩
  obtain ⟨o1, o2, o3, o4, o5, o6, o7, o8⟩ := O
  unfold OwnC live
  simp only [lR_ot, lR_oi, lR_ok, lR_kd, lR_mn, lR_rn, lR_sg, lR_db, lR_bl, lR_rw]
  have z := B.2.2.1
  have l3 := h0
  clear B C c l3; unfold live at *; generalize vot V = ot at *; generalize voi V = oi at *; generalize vok V = ok at *; generalize vkd V = kd at *; generalize vmn V = mn at *; generalize vrn V = rn at *; generalize vsg V = sg at *; generalize vdb V = db at *; generalize vbl V = bl at *; generalize vrw V = rw at *; try clear V
  refine ⟨by grind, by grind, by grind, by grind, by grind, by grind, ?_, by grind⟩
  intro j r hj hr
  have hr2 : r < rn j := by by_cases e : j = i <;> simp only [e, if_true, if_false] at hr <;> grind
  have h7 := o7 j r hj hr2
  have hne : rw j r ≠ b := fun e => by
    rw [e] at h7
    have e1 : j = i := by omega
    subst e1
    rw [if_pos rfl] at hr; omega
  simp only [if_neg hne]; exact h7
set_option maxRecDepth 4096 in
theorem Stc_lB {nb : Nat} {V : VV} (A : Stc nb V) {i b : Nat} (hl : live V i) (h0 : 1 ≤ vmn V i) (hb : b = vbl V i (vmn V i - 1)) : Stc nb (lB V i b) ∧ nfb (lB V i b) = nfb V + 1 := by
  obtain ⟨B, C, O⟩ := A
  obtain ⟨q0, q1, q2, q3, q4⟩ := O.1 i (vmn V i - 1) hl (by omega)
  rw [← hb] at q0 q1 q2 q3 q4
  have c := CntB_gv (W := lB V i b) B C (by omega) q1 (by omega) (lB_S V i b) rfl rfl (lB_ot V i b)
  refine ⟨⟨Bas_g B (lB_S V i b) (lB_ot V i b) (by omega) q1 (by omega) (by omega), c.1, ?_⟩, c.2⟩
  obtain ⟨o1, o2, o3, o4, o5, o6, o7, o8⟩ := O
  unfold OwnC live
  simp only [lB_ot, lB_oi, lB_ok, lB_kd, lB_mn, lB_rn, lB_sg, lB_db, lB_bl, lB_rw]
  have z := B.2.2.1
  have l3 := h0
  clear B C c l3; unfold live at *; generalize vot V = ot at *; generalize voi V = oi at *; generalize vok V = ok at *; generalize vkd V = kd at *; generalize vmn V = mn at *; generalize vrn V = rn at *; generalize vsg V = sg at *; generalize vdb V = db at *; generalize vbl V = bl at *; generalize vrw V = rw at *; try clear V
  refine ⟨?_, by grind, by grind, by grind, by grind, by grind, by grind, by grind⟩
  intro j r hj hr
  have hr2 : r < mn j := by by_cases e : j = i <;> simp only [e, if_true, if_false] at hr <;> grind
  have h7 := o1 j r hj hr2
  have hne : bl j r ≠ b := fun e => by
    rw [e] at h7
    have e1 : j = i := by omega
    subst e1
    rw [if_pos rfl] at hr; omega
  simp only [if_neg hne]; exact h7
-- the class
set_option maxRecDepth 4096 in
theorem lS_X {nb : Nat} {V : VV} {d : Nat → Nat} {σ : XS} (B : Bas nb V) (S : Sc V σ) (D : DX nb V d) (C : CntB V) (O : OwnC nb V) {i : Nat} (h1 : 1 ≤ i) (h2 : i ≤ vQ V * vG V) (hl : live V i) (htw : 2 ≤ vtw V i) (htw2 : vtw V i < 2147483000) (h0 : vsg V i ≠ 0) :
    ∃ d', DX nb (lS V i (vsg V i)) d' ∧ fXX4_lose_6 nb (nI (inoA (vP V) (vG V) i)) (nI (inoA (vP V) (vG V) i + 88)) (XD σ d) = some (XD σ d') := by
  have hA := inoA_lt B h1 h2
  have hg := G_lt B
  obtain ⟨q1, q2, q3⟩ := O.2.2.1 i hl h0
  refine lose_X B S D C (setA (gvB V (vsg V i)) 9 i 0) (by omega) q1 (by omega) (by omega) h1 h2 hl htw htw2 (by omega) (rd_sg B D h1 h2 hl (by omega)) ?_ gv_s (fun _ => rfl) (gv_a (by omega) (by omega)) (gv_a (by omega) (by omega))
  intro d1 D1
  have eP : vP (gvB V (vsg V i)) = vP V := congrFun gv_s 0
  have eQ : vQ (gvB V (vsg V i)) = vQ V := congrFun gv_s 1
  have eG : vG (gvB V (vsg V i)) = vG V := congrFun gv_s 2
  have ek : vkd (gvB V (vsg V i)) = vkd V := gv_a (by omega) (by omega)
  have := DX_sg (Bas_g B gv_s (t := 0) (b := vsg V i) (fun c => gv_t) (by omega) q1 (by omega) (by omega)) D1 (i := i) h1 (by rw [eQ, eG]; exact h2) (by unfold live; rw [ek]; exact hl) 0
  rw [eP, eG] at this; exact this
set_option maxRecDepth 4096 in
theorem lD_X {nb : Nat} {V : VV} {d : Nat → Nat} {σ : XS} (B : Bas nb V) (S : Sc V σ) (D : DX nb V d) (C : CntB V) (O : OwnC nb V) {i : Nat} (h1 : 1 ≤ i) (h2 : i ≤ vQ V * vG V) (hl : live V i) (htw : 2 ≤ vtw V i) (htw2 : vtw V i < 2147483000) (h0 : vdb V i ≠ 0) :
    ∃ d', DX nb (lD V i (vdb V i)) d' ∧ fXX4_lose_6 nb (nI (inoA (vP V) (vG V) i)) (nI (inoA (vP V) (vG V) i + 92)) (XD σ d) = some (XD σ d') := by
  have hA := inoA_lt B h1 h2
  have hg := G_lt B
  obtain ⟨q1, q2, q3⟩ := O.2.2.2.2.1 i hl h0
  refine lose_X B S D C (setA (gvB V (vdb V i)) 10 i 0) (by omega) q1 (by omega) (by omega) h1 h2 hl htw htw2 (by omega) (rd_db B D h1 h2 hl (by omega)) ?_ gv_s (fun _ => rfl) (gv_a (by omega) (by omega)) (gv_a (by omega) (by omega))
  intro d1 D1
  have eP : vP (gvB V (vdb V i)) = vP V := congrFun gv_s 0
  have eQ : vQ (gvB V (vdb V i)) = vQ V := congrFun gv_s 1
  have eG : vG (gvB V (vdb V i)) = vG V := congrFun gv_s 2
  have ek : vkd (gvB V (vdb V i)) = vkd V := gv_a (by omega) (by omega)
  have := DX_db (Bas_g B gv_s (t := 0) (b := vdb V i) (fun c => gv_t) (by omega) q1 (by omega) (by omega)) D1 (i := i) h1 (by rw [eQ, eG]; exact h2) (by unfold live; rw [ek]; exact hl) 0
  rw [eP, eG] at this; exact this
set_option maxRecDepth 4096 in
theorem lR_X {nb : Nat} {V : VV} {d : Nat → Nat} {σ : XS} (B : Bas nb V) (S : Sc V σ) (D : DX nb V d) (C : CntB V) (O : OwnC nb V) {i b : Nat} (h1 : 1 ≤ i) (h2 : i ≤ vQ V * vG V) (hl : live V i) (htw : 2 ≤ vtw V i) (htw2 : vtw V i < 2147483000) (h0 : vdb V i ≠ 0) (hr : vrn V i = 1) (hb : b = vrw V i 0) :
    ∃ d', DX nb (lR V i b) d' ∧ fXX4_lose_6 nb (nI (inoA (vP V) (vG V) i)) (nI (1024 * vdb V i + 0)) (XD σ d) = some (XD σ d') := by
  have hA := inoA_lt B h1 h2
  have hg := G_lt B
  obtain ⟨q1, q2, q3⟩ := O.2.2.2.2.1 i hl h0
  obtain ⟨p0, p1, p2, p3, p4⟩ := O.2.2.2.2.2.2.1 i 0 hl (by omega)
  rw [← hb] at p0 p1 p2 p3 p4
  have r2 := rd_dbl D q1 q2 (w := 0) (by omega) (by rw [q3]; omega)
  rw [q3, if_pos (by omega), ← hb] at r2
  have hne : vdb V i ≠ b := fun e => by rw [e] at q2; omega
  refine lose_X B S D C (setA (gvB V b) 7 i (vrn V i - 1)) (by omega) p1 (by omega) (by omega) h1 h2 hl htw htw2 (by omega) r2 ?_ gv_s (fun _ => rfl) (gv_a (by omega) (by omega)) (gv_a (by omega) (by omega))
  intro d1 D1
  have edb : vdb (gvB V b) = vdb V := gv_a (by omega) (by omega)
  have ern : vrn (gvB V b) = vrn V := gv_a (by omega) (by omega)
  have erw : vrw (gvB V b) = vrw V := gv_m (by omega)
  have := DX_rptr (V := gvB V b) (V' := setA (gvB V b) 7 i (vrn V i - 1)) (i := i) (r := 0) (v := 0) D1 (by omega) (by rw [edb]; exact q1) ?_ rfl rfl rfl rfl rfl rfl rfl (fun _ => rfl) (fun _ _ => rfl) (fx_low (fun _ => rfl) rfl (fun _ _ => rfl) (fun _ _ => rfl) (fun _ _ => rfl)) ?_
  · rw [edb] at this; exact this
  · intro c hc
    rw [edb, gv_t, show voi (gvB V b) = voi V from gv_a (by omega) (by omega)]
    constructor
    · rintro ⟨h, h'⟩
      by_cases hcb : c = b
      · rw [if_pos hcb] at h; omega
      · rw [if_neg hcb] at h
        have := O.2.2.2.2.2.1 c hc h
        rw [h'] at this; exact this.2.symm
    · intro h
      subst h
      rw [if_neg hne]; exact ⟨q2, q3⟩
  · intro j m
    unfold rptr
    by_cases h : j = i
    · subst h
      rw [show vrn (setA (gvB V b) 7 j (vrn V j - 1)) j = 0 by rw [show vrn (setA (gvB V b) 7 j (vrn V j - 1)) j = vrn V j - 1 from setA_e _ _ _ _]; omega, if_neg (by omega), ern]
      by_cases h' : m = 0
      · rw [if_pos ⟨rfl, h'⟩]
      · rw [if_neg (fun e => h' e.2), if_neg (by omega)]
    · rw [show vrn (setA (gvB V b) 7 i (vrn V i - 1)) j = vrn (gvB V b) j from setA_n _ _ _ h]
      simp only [h, false_and, if_false]; rfl
set_option maxRecDepth 4096 in
theorem ptr_rd {nb : Nat} {V : VV} {d : Nat → Nat} {σ : XS} (B : Bas nb V) (S : Sc V σ) (D : DX nb V d) (O : OwnC nb V) {i n : Nat} (h1 : 1 ≤ i) (h2 : i ≤ vQ V * vG V) (hl : live V i) (hn : n < vmn V i) (hs : 12 ≤ n → n < 268 → vsg V i ≠ 0) (hd : 268 ≤ n → vdb V i ≠ 0 ∧ 0 < vrn V i) : ptrA V i n + 3 < nb * 1024 ∧ rd4 d (ptrA V i n) = vbl V i n ∧ Ptr nb V i n := by
  have hg := G_lt B
  have hA := inoA_lt B h1 h2
  have hmn := mn_lt B O hl
  obtain ⟨o1, o2, o3, o4, o5, o6, o7, o8⟩ := O
  have ob := o1 i n hl hn
  have ep : ptr V i n = vbl V i n := by unfold ptr; rw [if_pos hn]
  unfold ptrA Ptr
  by_cases c1 : n < 12
  · rw [if_pos c1]
    refine ⟨by omega, by rw [rd_dir B D h1 h2 hl c1 (by omega), ep], by omega, fun _ _ => by omega, fun _ => by omega⟩
  · rw [if_neg c1]
    by_cases c2 : n < 268
    · rw [if_pos c2]
      obtain ⟨q1, q2, q3⟩ := o3 i hl (hs (by omega) c2)
      have r := rd_sing D q1 q2 (w := n - 12) (by omega) (by rw [q3, show 12 + (n - 12) = n by omega]; omega)
      rw [q3, show 12 + (n - 12) = n by omega, ep] at r
      refine ⟨by omega, r, by omega, fun _ _ => ⟨q1, fun c hc => ⟨?_, ?_⟩⟩, fun _ => by omega⟩
      · rintro ⟨x, y⟩; have := (o4 c hc x).2; rw [y] at this; exact this.symm
      · rintro rfl; exact ⟨q2, q3⟩
    · rw [if_neg c2]
      obtain ⟨e1, e2⟩ := hd (by omega)
      have e3 : (n - 268) / 256 = 0 := by omega
      obtain ⟨p0, p1, p2, p3, p4⟩ := o7 i 0 hl e2
      have r := rd_row D p1 p2 (w := (n - 268) % 256) (by omega) (by rw [p3, p4, show 268 + 256 * 0 + (n - 268) % 256 = n by omega]; omega)
      rw [p3, p4, show 268 + 256 * 0 + (n - 268) % 256 = n by omega, ep] at r
      rw [e3]
      refine ⟨by omega, r, by omega, fun _ _ => by omega, fun _ => ⟨p1, fun c hc => ⟨?_, ?_⟩⟩⟩
      · rintro ⟨x, y, z⟩; have := (o8 c hc x).2.2; rw [y, z] at this; exact this.symm
      · rintro rfl; exact ⟨p2, p3, p4⟩
set_option maxRecDepth 4096 in
theorem lB_X {nb : Nat} {V : VV} {d : Nat → Nat} {σ : XS} (B : Bas nb V) (S : Sc V σ) (D : DX nb V d) (C : CntB V) (O : OwnC nb V) {i n b : Nat} (h1 : 1 ≤ i) (h2 : i ≤ vQ V * vG V) (hl : live V i) (htw : 2 ≤ vtw V i) (htw2 : vtw V i < 2147483000) (hn : vmn V i = n + 1) (hs : 12 ≤ n → n < 268 → vsg V i ≠ 0) (hd : 268 ≤ n → vdb V i ≠ 0 ∧ 0 < vrn V i) (hb : b = vbl V i n) :
    ∃ d', DX nb (lB V i b) d' ∧ fXX4_lose_6 nb (nI (inoA (vP V) (vG V) i)) (nI (ptrA V i n)) (XD σ d) = some (XD σ d') := by
  have hA := inoA_lt B h1 h2
  have hg := G_lt B
  obtain ⟨r1, r2, r3⟩ := ptr_rd B S D O h1 h2 hl (n := n) (by omega) hs hd
  have hmn := mn_lt B O hl
  obtain ⟨p0, p1, p2, p3, p4⟩ := O.1 i n hl (by omega)
  rw [← hb] at p0 p1 p2 p3 p4 r2
  refine lose_X B S D C (setA (gvB V b) 6 i (vmn V i - 1)) (by omega) p1 (by omega) (by omega) h1 h2 hl htw htw2 r1 r2 ?_ gv_s (fun _ => rfl) (gv_a (by omega) (by omega)) (gv_a (by omega) (by omega))
  intro d1 D1
  have eP : vP (gvB V b) = vP V := congrFun gv_s 0
  have eQ : vQ (gvB V b) = vQ V := congrFun gv_s 1
  have eG : vG (gvB V b) = vG V := congrFun gv_s 2
  have ek : vkd (gvB V b) = vkd V := gv_a (by omega) (by omega)
  have esg : vsg (gvB V b) = vsg V := gv_a (by omega) (by omega)
  have emn : vmn (gvB V b) = vmn V := gv_a (by omega) (by omega)
  have eoi : voi (gvB V b) = voi V := gv_a (by omega) (by omega)
  have eok : vok (gvB V b) = vok V := gv_a (by omega) (by omega)
  have ebl : vbl (gvB V b) = vbl V := gv_m (by omega)
  have erw : vrw (gvB V b) = vrw V := gv_m (by omega)
  have epa : ptrA (gvB V b) i n = ptrA V i n := by unfold ptrA; rw [eP, eG, esg, erw]
  have hP : Ptr nb (gvB V b) i n := by
    obtain ⟨x1, x2, x3⟩ := r3
    refine ⟨x1, fun c1 c2 => ?_, fun c1 => ?_⟩
    · rw [esg, eoi]
      obtain ⟨y1, y2⟩ := x2 c1 c2
      refine ⟨y1, fun c hc => ?_⟩
      rw [gv_t, ← y2 c hc]
      by_cases e : c = b
      · rw [if_pos e]; subst e; omega
      · rw [if_neg e]
    · rw [erw, eoi, eok]
      obtain ⟨y1, y2⟩ := x3 c1
      refine ⟨y1, fun c hc => ?_⟩
      rw [gv_t, ← y2 c hc]
      by_cases e : c = b
      · rw [if_pos e]; subst e; omega
      · rw [if_neg e]
  have := DX_ptr (V := gvB V b) (V' := setA (gvB V b) 6 i (vmn V i - 1)) (i := i) (k := n) (v := 0) (Bas_g B gv_s (t := 0) (b := b) (fun c => gv_t) (by omega) p1 (by omega) (by omega)) D1 h1 (by rw [eQ, eG]; exact h2) (by unfold live; rw [ek]; exact hl) hP rfl rfl rfl rfl rfl rfl rfl (fun _ => rfl) rfl rfl (fx_low (fun _ => rfl) rfl (fun _ _ => rfl) (fun _ _ => rfl) (fun _ _ => rfl)) ?_
  · rw [epa] at this; exact this
  · intro j m
    unfold ptr
    by_cases h : j = i
    · subst h
      rw [show vmn (setA (gvB V b) 6 j (vmn V j - 1)) j = n by rw [show vmn (setA (gvB V b) 6 j (vmn V j - 1)) j = vmn V j - 1 from setA_e _ _ _ _]; omega, emn, show vbl (setA (gvB V b) 6 j (vmn V j - 1)) = vbl (gvB V b) from rfl]
      by_cases h' : m = n
      · simp only [h', and_self, if_true, Nat.lt_irrefl, if_false]
      · by_cases h'' : m < n
        · simp only [h', h'', and_false, if_false, if_true, show m < vmn V j by omega]
        · simp only [h', h'', and_false, if_false, show ¬ m < vmn V j by omega]
    · rw [show vmn (setA (gvB V b) 6 i (vmn V i - 1)) j = vmn (gvB V b) j from setA_n _ _ _ h]
      simp only [h, false_and, if_false]; rfl
