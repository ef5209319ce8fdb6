set_option maxRecDepth 4096 in
theorem pointerAt_X {nb : Nat} {V : VV} {d : Nat → Nat} {σ : XS} (B : Bas nb V) (S : Sc V σ) (D : DX nb V d) (O : OwnC nb V) {i n : Nat} (h1 : 1 ≤ i) (h2 : i ≤ vQ V * vG V) (hl : live V i) (hn : n < 524) (hs : 12 ≤ n → n < 268 → vsg V i ≠ 0) (hd : 268 ≤ n → vdb V i ≠ 0 ∧ 0 < vrn V i) :
    fXX4_pointerAt_6 nb (nI (inoA (vP V) (vG V) i)) (nI n) (XD σ d) = some (nI (ptrA V i n), XD σ d) := by
  have hg := G_lt B
  have hA := inoA_lt B h1 h2
  obtain ⟨o1, o2, o3, o4, o5, o6, o7, o8⟩ := O
  unfold ptrA
  by_cases c1 : n < 12
  · rw [if_pos c1, ← Nat.add_assoc]
    simp (disch := omega) only [fXX4_pointerAt_6_0, fXX4_pointerAt_6, lit, litN, nI_ltI', nI_leI', nI_eqI, nI_clampI, if_neg, nI_add, nI_mul]
  · rw [if_neg c1]
    by_cases c2 : n < 268
    · rw [if_pos c2]
      obtain ⟨q1, q2, q3⟩ := o3 i hl (hs (by omega) c2)
      have r := rd_sg B D h1 h2 hl (by omega)
      simp (disch := omega) only [fXX4_pointerAt_6_0, fXX4_pointerAt_6, lit, litN, nI_ltI', nI_leI', nI_eqI, nI_clampI, if_neg, if_pos, nI_add, nI_mul, get4_X, obs, r, nI_sub, m1024]
    · rw [if_neg c2]
      obtain ⟨e1, e2⟩ := hd (by omega)
      obtain ⟨q1, q2, q3⟩ := o5 i hl e1
      have e3 : (n - 268) / 256 = 0 := by omega
      obtain ⟨p0, p1, p2, p3, p4⟩ := o7 i 0 hl e2
      have r := rd_db B D h1 h2 hl (by omega)
      have r2 := rd_dbl D q1 q2 (w := 0) (by omega) (by rw [q3]; omega)
      rw [q3, if_pos e2] at r2
      rw [e3]
      simp (disch := omega) only [fXX4_pointerAt_6_0, fXX4_pointerAt_6, lit, litN, nI_ltI', nI_leI', nI_eqI, nI_clampI, if_pos, nI_add, nI_mul, get4_X, obs, r, nI_sub, nI_div, m1024, e3, nI_sub_dm, r2]
      congr 4; omega
set_option maxRecDepth 4096 in
theorem rowPointerAt_X {nb : Nat} {V : VV} {d : Nat → Nat} {σ : XS} (B : Bas nb V) (S : Sc V σ) (D : DX nb V d) (O : OwnC nb V) {i n : Nat} (h1 : 1 ≤ i) (h2 : i ≤ vQ V * vG V) (hl : live V i) (hn : n < 524) (hn2 : 268 ≤ n) (hv : vdb V i < 4294967296) :
    fXX4_rowPointerAt_6 nb (nI (inoA (vP V) (vG V) i)) (nI n) (XD σ d) = some (nI (1024 * vdb V i + 0), XD σ d) := by
  have hg := G_lt B
  have hA := inoA_lt B h1 h2
  have r := rd_db B D h1 h2 hl hv
  have e3 : (n - 268) / 256 = 0 := by omega
  simp (disch := omega) only [fXX4_rowPointerAt_6_0, fXX4_rowPointerAt_6, lit, litN, nI_add, nI_mul, get4_X, obs, r, nI_sub, nI_div, m1024, e3]
set_option maxRecDepth 4096 in
theorem beginsRow_X (nb : Nat) (σ : XS) {n : Nat} (hn : n < 524) : fXX4_beginsRow nb (nI n) σ = some (if n = 268 then nI 1 else nI 0, σ) := by
  by_cases c : n < 268
  · rw [if_neg (by omega)]
    simp (disch := omega) only [fXX4_beginsRow_0, fXX4_beginsRow, lit, litN, nI_ltI', nI_leI', nI_eqI, nI_clampI, if_pos]
  · have e3 : (n - 268) / 256 = 0 := by omega
    by_cases c2 : n = 268
    · subst c2
      rfl
    · rw [if_neg c2]
      simp (disch := omega) only [fXX4_beginsRow_0, fXX4_beginsRow, lit, litN, nI_ltI', nI_leI', nI_eqI, nI_clampI, if_neg, nI_sub, nI_div, nI_mul, e3]
def alln (n : Nat) : Nat := n + (if 12 < n then 1 else 0) + (if 268 < n then 1 + (n - 268 + 255) / 256 else 0)
def Shp (V : VV) (i : Nat) : Prop := (vsg V i ≠ 0 ↔ 12 < vmn V i) ∧ (vdb V i ≠ 0 ↔ 268 < vmn V i) ∧ vrn V i = (if 268 < vmn V i then 1 else 0) ∧ vtw V i = 2 * alln (vmn V i)
set_option maxRecDepth 4096 in
theorem alln_lt {n : Nat} (h : n < 524) : alln n ≤ n + 3 := by unfold alln; split <;> split <;> omega
noncomputable def addB (V : VV) (i : Nat) : VV :=
  if vmn V i = 12 then gB (gS V i (lb V)) i (lb (gS V i (lb V)))
  else if vmn V i = 268 then gB (gR (gD V i (lb V)) i (lb (gD V i (lb V)))) i (lb (gR (gD V i (lb V)) i (lb (gD V i (lb V)))))
  else gB V i (lb V)
def cost (n : Nat) : Nat := if n = 12 then 2 else if n = 268 then 3 else 1
set_option maxRecDepth 4096 in
theorem cost_alln {n : Nat} (h : n < 523) : alln (n + 1) = alln n + cost n := by
  unfold alln cost; split <;> split <;> split <;> split <;> split <;> (try split) <;> omega
-- what an added block leaves as it was
def Ext (V W : VV) (i : Nat) : Prop := W.1 = V.1 ∧ vkd W = vkd V ∧ vsz W = vsz V ∧ vlk W = vlk V ∧ vpar W = vpar V ∧ vFI W = vFI V ∧ vtm W = vtm V ∧ vent W = vent V ∧ vdp W = vdp V ∧ vfi W = vfi V ∧ vdc W = vdc V ∧ ves W = ves V ∧
  (∀ j, j ≠ i → vmn W j = vmn V j ∧ vrn W j = vrn V j ∧ vtw W j = vtw V j ∧ vsg W j = vsg V j ∧ vdb W j = vdb V j) ∧ vmn V i ≤ vmn W i ∧
  (∀ j k, k < vmn V j → vbl W j k = vbl V j k) ∧ (∀ j k, j ≠ i → vbl W j k = vbl V j k ∧ vrw W j k = vrw V j k) ∧
  (∀ c, vot V c ≠ 0 → vot W c = vot V c ∧ voi W c = voi V c ∧ vok W c = vok V c) ∧ (∀ a, vot V (a / 1024) ≠ 0 → vdat W a = vdat V a) ∧
  (∀ k, vmn V i ≤ k → k < vmn W i → vot V (vbl W i k) = 0 ∧ ∀ o, o < 1024 → vdat W (1024 * vbl W i k + o) = 0)
set_option maxRecDepth 4096 in
theorem Ext_rfl (V : VV) (i : Nat) : Ext V V i := ⟨rfl, rfl, rfl, rfl, rfl, rfl, rfl, rfl, rfl, rfl, rfl, rfl, fun _ _ => ⟨rfl, rfl, rfl, rfl, rfl⟩, Nat.le_refl _, fun _ _ _ => rfl, fun _ _ _ => ⟨rfl, rfl⟩, fun _ _ => ⟨rfl, rfl, rfl⟩, fun _ _ => rfl, fun k h1 h2 => by omega⟩
set_option maxRecDepth 4096 in
theorem Ext_trans {nb : Nat} {V W X : VV} {i : Nat} (O : OwnC nb W) (hl : live W i) (h : Ext V W i) (g : Ext W X i) : Ext V X i := by
  obtain ⟨a1, a2, a3, a4, a5, a6, a7, a8, a9, a10, a11, a12, a13, a14, a15, a16, a17, a18, a19⟩ := h
  obtain ⟨b1, b2, b3, b4, b5, b6, b7, b8, b9, b10, b11, b12, b13, b14, b15, b16, b17, b18, b19⟩ := g
  refine ⟨b1.trans a1, b2.trans a2, b3.trans a3, b4.trans a4, b5.trans a5, b6.trans a6, b7.trans a7, b8.trans a8, b9.trans a9, b10.trans a10, b11.trans a11, b12.trans a12, fun j hj => ?_, by omega, fun j k hk => ?_, fun j k hj => ?_, fun c hc => ?_, fun a ha => ?_, fun k h1 h2 => ?_⟩
  · obtain ⟨x1, x2, x3, x4, x5⟩ := a13 j hj; obtain ⟨y1, y2, y3, y4, y5⟩ := b13 j hj
    exact ⟨y1.trans x1, y2.trans x2, y3.trans x3, y4.trans x4, y5.trans x5⟩
  · have : k < vmn W j := by
      by_cases e : j = i
      · subst e; omega
      · rw [(a13 j e).1]; exact hk
    rw [b15 j k this, a15 j k hk]
  · exact ⟨(b16 j k hj).1.trans (a16 j k hj).1, (b16 j k hj).2.trans (a16 j k hj).2⟩
  · obtain ⟨x1, x2, x3⟩ := a17 c hc
    obtain ⟨y1, y2, y3⟩ := b17 c (by rw [x1]; exact hc)
    exact ⟨y1.trans x1, y2.trans x2, y3.trans x3⟩
  · rw [b18 a (by rw [(a17 _ ha).1]; exact ha), a18 a ha]
  · rcases Nat.lt_or_ge k (vmn W i) with c | c
    · have e := b15 i k c
      rw [e]
      obtain ⟨x1, x2⟩ := a19 k h1 c
      refine ⟨x1, fun o ho => ?_⟩
      have := O.1 i k hl c
      rw [b18 _ (by rw [show (1024 * vbl W i k + o) / 1024 = vbl W i k by omega]; omega), x2 o ho]
    · obtain ⟨x1, x2⟩ := b19 k c h2
      refine ⟨?_, x2⟩
      by_cases e : vot V (vbl X i k) = 0
      · exact e
      · rw [(a17 _ e).1] at x1; exact absurd x1 e
set_option maxRecDepth 4096 in
theorem dat_z {V : VV} {b a : Nat} (h0 : vot V b = 0) (ha : vot V (a / 1024) ≠ 0) : wrF (vdat V) (1024 * b) (1024 * b + 1024) 0 a = vdat V a := by
  unfold wrF; rw [if_neg]
  rintro ⟨x, y⟩
  have : a / 1024 = b := by omega
  rw [this] at ha; exact ha h0
set_option maxRecDepth 4096 in
theorem Ext_gS {V : VV} {i b : Nat} (h0 : vot V b = 0) : Ext V (gS V i b) i := by
  refine ⟨gS_S .., gS_kd .., gS_sz .., gS_lk .., gS_par .., gS_FI .., gS_tm .., gS_ent .., gS_dp .., gS_fi .., gS_dc .., gS_es .., fun j hj => ?_, ?_, fun j k _ => ?_, fun j k _ => ?_, fun c hc => ?_, fun a ha => ?_, fun k h1 h2 => ?_⟩
  · rw [gS_mn, gS_rn, gS_tw, gS_sg, gS_db, if_neg hj, if_neg hj]; exact ⟨rfl, rfl, rfl, rfl, rfl⟩
  · rw [gS_mn]; exact Nat.le_refl _
  · rw [gS_bl]
  · rw [gS_bl, gS_rw]; exact ⟨rfl, rfl⟩
  · have : c ≠ b := fun e => hc (by rw [e]; exact h0)
    rw [gS_ot, gS_oi, gS_ok, if_neg this, if_neg this, if_neg this]; exact ⟨rfl, rfl, rfl⟩
  · rw [gS_dat, dat_z h0 ha]
  · rw [gS_mn] at h2; omega
set_option maxRecDepth 4096 in
theorem Ext_gD {V : VV} {i b : Nat} (h0 : vot V b = 0) : Ext V (gD V i b) i := by
  refine ⟨gD_S .., gD_kd .., gD_sz .., gD_lk .., gD_par .., gD_FI .., gD_tm .., gD_ent .., gD_dp .., gD_fi .., gD_dc .., gD_es .., fun j hj => ?_, ?_, fun j k _ => ?_, fun j k _ => ?_, fun c hc => ?_, fun a ha => ?_, fun k h1 h2 => ?_⟩
  · rw [gD_mn, gD_rn, gD_tw, gD_sg, gD_db, if_neg hj, if_neg hj]; exact ⟨rfl, rfl, rfl, rfl, rfl⟩
  · rw [gD_mn]; exact Nat.le_refl _
  · rw [gD_bl]
  · rw [gD_bl, gD_rw]; exact ⟨rfl, rfl⟩
  · have : c ≠ b := fun e => hc (by rw [e]; exact h0)
    rw [gD_ot, gD_oi, gD_ok, if_neg this, if_neg this, if_neg this]; exact ⟨rfl, rfl, rfl⟩
  · rw [gD_dat, dat_z h0 ha]
  · rw [gD_mn] at h2; omega
set_option maxRecDepth 4096 in
theorem Ext_gR {V : VV} {i b : Nat} (h0 : vot V b = 0) : Ext V (gR V i b) i := by
  refine ⟨gR_S .., gR_kd .., gR_sz .., gR_lk .., gR_par .., gR_FI .., gR_tm .., gR_ent .., gR_dp .., gR_fi .., gR_dc .., gR_es .., fun j hj => ?_, ?_, fun j k _ => ?_, fun j k hj => ?_, fun c hc => ?_, fun a ha => ?_, fun k h1 h2 => ?_⟩
  · rw [gR_mn, gR_rn, gR_tw, gR_sg, gR_db, if_neg hj, if_neg hj]; exact ⟨rfl, rfl, rfl, rfl, rfl⟩
  · rw [gR_mn]; exact Nat.le_refl _
  · rw [gR_bl]
  · rw [gR_bl, gR_rw, if_neg (fun e => hj e.1)]; exact ⟨rfl, rfl⟩
  · have : c ≠ b := fun e => hc (by rw [e]; exact h0)
    rw [gR_ot, gR_oi, gR_ok, if_neg this, if_neg this, if_neg this]; exact ⟨rfl, rfl, rfl⟩
  · rw [gR_dat, dat_z h0 ha]
  · rw [gR_mn] at h2; omega
set_option maxRecDepth 4096 in
theorem Ext_gB {V : VV} {i b : Nat} (h0 : vot V b = 0) : Ext V (gB V i b) i := by
  refine ⟨gB_S .., gB_kd .., gB_sz .., gB_lk .., gB_par .., gB_FI .., gB_tm .., gB_ent .., gB_dp .., gB_fi .., gB_dc .., gB_es .., fun j hj => ?_, ?_, fun j k hk => ?_, fun j k hj => ?_, fun c hc => ?_, fun a ha => ?_, fun k h1 h2 => ?_⟩
  · rw [gB_mn, gB_rn, gB_tw, gB_sg, gB_db, if_neg hj, if_neg hj]; exact ⟨rfl, rfl, rfl, rfl, rfl⟩
  · rw [gB_mn, if_pos rfl]; omega
  · rw [gB_bl, if_neg]; rintro ⟨rfl, e⟩; omega
  · rw [gB_bl, gB_rw, if_neg (fun e => hj e.1)]; exact ⟨rfl, rfl⟩
  · have : c ≠ b := fun e => hc (by rw [e]; exact h0)
    rw [gB_ot, gB_oi, gB_ok, if_neg this, if_neg this, if_neg this]; exact ⟨rfl, rfl, rfl⟩
  · rw [gB_dat, dat_z h0 ha]
  · rw [gB_mn, if_pos rfl] at h2
    have : k = vmn V i := by omega
    rw [gB_bl, if_pos ⟨rfl, this⟩]
    refine ⟨h0, fun o ho => ?_⟩
    rw [gB_dat]; unfold wrF; rw [if_pos (by omega)]
-- adding a block: the structure, and the class
set_option maxRecDepth 4096 in
theorem addB_S {nb : Nat} {V : VV} (A : Stc nb V) {i : Nat} (h1 : 1 ≤ i) (h2 : i ≤ vQ V * vG V) (hl : live V i) (P : Shp V i) (hf : cost (vmn V i) ≤ nfb V) :
    Stc nb (addB V i) ∧ Shp (addB V i) i ∧ vmn (addB V i) i = vmn V i + 1 ∧ nfb (addB V i) + cost (vmn V i) = nfb V ∧ Ext V (addB V i) i ∧ vbl (addB V i) i (vmn V i) ≠ 0 ∧
    ∀ (σ : XS) (d : Nat → Nat), Sc V σ → DX nb V d → ∃ d', DX nb (addB V i) d' ∧ fXX4_addBlock_6 nb (nI i) (nI (vmn V i)) (XD σ d) = some (XD σ d') := by
  obtain ⟨B, C, O⟩ := A
  have hg := G_lt B
  have hmn := mn_lt B O hl
  obtain ⟨P1, P2, P3, P4⟩ := P
  have hcp : 1 ≤ cost (vmn V i) := by unfold cost; split <;> (try split) <;> omega
  obtain ⟨lb1, lb2⟩ := lb_low B (by omega)
  have hall := alln_lt (n := vmn V i) (by omega)
  unfold addB
  by_cases c12 : vmn V i = 12
  · rw [if_pos c12]
    have hf2 : 2 ≤ nfb V := by rw [c12] at hf; exact hf
    generalize hb : lb V = b at *
    have h0 : vsg V i = 0 := Decidable.byContradiction (fun h => by have := P1.mp h; omega)
    obtain ⟨A1, n1⟩ := Stc_gS ⟨B, C, O⟩ lb1 lb2 hl h0
    obtain ⟨B1, C1, O1⟩ := A1
    have hl1 : live (gS V i b) i := by unfold live; rw [gS_kd]; exact hl
    obtain ⟨lc1, lc2⟩ := lb_low B1 (by omega)
    have E1 := Ext_gS (V := V) (i := i) lb2.2.1
    generalize hW : gS V i b = W at *
    have eS : W.1 = V.1 := E1.1
    have eP : vP W = vP V := congrFun eS 0
    have eQ : vQ W = vQ V := congrFun eS 1
    have eG : vG W = vG V := congrFun eS 2
    have e1 : vmn W i = 12 := by rw [← hW, gS_mn]; exact c12
    have e2 : vsg W i = b := by rw [← hW, gS_sg, if_pos rfl]
    have e3 : vrn W i = vrn V i := by rw [← hW, gS_rn]
    have e4 : vdb W i = vdb V i := by rw [← hW, gS_db]
    have e5 : vtw W i = vtw V i + 2 := by rw [← hW, gS_tw, if_pos rfl]
    generalize hb' : lb W = b' at *
    obtain ⟨A2, n2⟩ := Stc_gB ⟨B1, C1, O1⟩ lc1 lc2 hl1
    refine ⟨A2, ⟨?_, ?_, ?_, ?_⟩, ?_, ?_, Ext_trans O1 hl1 E1 (Ext_gB lc2.2.1), ?_, ?_⟩
    · rw [gB_sg, gB_mn, if_pos rfl, e1, e2]; have := lb2.1; omega
    · rw [gB_db, gB_mn, if_pos rfl, e1, e4, P2]; omega
    · rw [gB_rn, gB_mn, if_pos rfl, e1, e3, P3, c12]; rfl
    · rw [gB_tw, if_pos rfl, gB_mn, if_pos rfl, e1, e5, P4, c12]; rfl
    · rw [gB_mn, if_pos rfl, e1, c12]
    · rw [c12]; show nfb (gB W i b') + 2 = nfb V; omega
    · rw [gB_bl, if_pos ⟨rfl, by rw [e1, c12]⟩]; have := lc2.1; omega
    · intro σ d S D
      obtain ⟨d1, D1, f1⟩ := gS_X B S D C lb1 lb2 h1 h2 hl (by omega) (by omega)
      rw [hW] at D1
      have S1 : Sc W σ := Sc_of eS S
      have pa := pointerAt_X B1 S1 D1 O1 (n := 12) h1 (by rw [eQ, eG]; exact h2) hl1 (by omega) (fun _ _ => by rw [e2]; have := lb2.1; omega) (fun h => by omega)
      obtain ⟨d2, D2, f2⟩ := gB_X B1 S1 D1 C1 O1 lc1 lc2 h1 (by rw [eQ, eG]; exact h2) hl1 (by omega) (by omega) (fun _ _ => by rw [e2]; have := lb2.1; omega) (fun h => by omega)
      rw [e1] at f2
      rw [eP, eG] at f2 pa
      refine ⟨d2, D2, ?_⟩
      have ia := inodeAt_X B S d h1 (by omega)
      have br := beginsRow_X nb (XD σ d1) (n := 12) (by omega)
      rw [if_neg (by omega)] at br
      rw [c12]
      simp (disch := omega) only [fXX4_addBlock_6_58, fXX4_addBlock_6_40, fXX4_addBlock_6_24, fXX4_addBlock_6_0, fXX4_addBlock_6, ia, lit, litN, nI_ltI', nI_leI', nI_eqI, nI_clampI, if_pos, if_neg, if_true, if_false, obs, nI_add, f1, br, pa, f2]
  · rw [if_neg c12]
    by_cases c268 : vmn V i = 268
    · rw [if_pos c268]
      have hf3 : 3 ≤ nfb V := by rw [c268] at hf; exact hf
      generalize hb : lb V = b at *
      have h0 : vdb V i = 0 := Decidable.byContradiction (fun h => by have := P2.mp h; omega)
      have hr0 : vrn V i = 0 := by rw [P3, if_neg (by omega)]
      obtain ⟨A1, n1⟩ := Stc_gD ⟨B, C, O⟩ lb1 lb2 hl h0
      obtain ⟨B1, C1, O1⟩ := A1
      have hl1 : live (gD V i b) i := by unfold live; rw [gD_kd]; exact hl
      obtain ⟨lc1, lc2⟩ := lb_low B1 (by omega)
      have E1 := Ext_gD (V := V) (i := i) lb2.2.1
      generalize hW : gD V i b = W at *
      have eS : W.1 = V.1 := E1.1
      have eP : vP W = vP V := congrFun eS 0
      have eQ : vQ W = vQ V := congrFun eS 1
      have eG : vG W = vG V := congrFun eS 2
      have e1 : vmn W i = 268 := by rw [← hW, gD_mn]; exact c268
      have e2 : vsg W i = vsg V i := by rw [← hW, gD_sg]
      have e3 : vrn W i = 0 := by rw [← hW, gD_rn]; exact hr0
      have e4 : vdb W i = b := by rw [← hW, gD_db, if_pos rfl]
      have e5 : vtw W i = vtw V i + 2 := by rw [← hW, gD_tw, if_pos rfl]
      generalize hb' : lb W = b' at *
      obtain ⟨A2, n2⟩ := Stc_gR ⟨B1, C1, O1⟩ lc1 lc2 hl1
      obtain ⟨B2, C2, O2⟩ := A2
      have hl2 : live (gR W i b') i := by unfold live; rw [gR_kd]; exact hl1
      obtain ⟨ld1, ld2⟩ := lb_low B2 (by omega)
      have E2 := Ext_gR (V := W) (i := i) lc2.2.1
      generalize hX : gR W i b' = X at *
      have eS' : X.1 = V.1 := E2.1.trans eS
      have eP' : vP X = vP V := congrFun eS' 0
      have eQ' : vQ X = vQ V := congrFun eS' 1
      have eG' : vG X = vG V := congrFun eS' 2
      have g1 : vmn X i = 268 := by rw [← hX, gR_mn]; exact e1
      have g2 : vsg X i = vsg V i := by rw [← hX, gR_sg]; exact e2
      have g3 : vrn X i = 1 := by rw [← hX, gR_rn, if_pos rfl, e3]
      have g4 : vdb X i = b := by rw [← hX, gR_db]; exact e4
      have g5 : vtw X i = vtw V i + 4 := by rw [← hX, gR_tw, if_pos rfl, e5]
      generalize hb'' : lb X = b'' at *
      obtain ⟨A3, n3⟩ := Stc_gB ⟨B2, C2, O2⟩ ld1 ld2 hl2
      refine ⟨A3, ⟨?_, ?_, ?_, ?_⟩, ?_, ?_, Ext_trans O2 hl2 (Ext_trans O1 hl1 E1 E2) (Ext_gB ld2.2.1), ?_, ?_⟩
      · rw [gB_sg, gB_mn, if_pos rfl, g1, g2, P1]; omega
      · rw [gB_db, gB_mn, if_pos rfl, g1, g4]; have := lb2.1; omega
      · rw [gB_rn, gB_mn, if_pos rfl, g1, g3]; rfl
      · rw [gB_tw, if_pos rfl, gB_mn, if_pos rfl, g1, g5, P4, c268]; rfl
      · rw [gB_mn, if_pos rfl, g1, c268]
      · rw [c268]; show nfb (gB X i b'') + 3 = nfb V; omega
      · rw [gB_bl, if_pos ⟨rfl, by rw [g1, c268]⟩]; have := ld2.1; omega
      · intro σ d S D
        obtain ⟨d1, D1, f1⟩ := gD_X B S D C lb1 lb2 h1 h2 hl (by omega) (by omega)
        rw [hW] at D1
        have S1 : Sc W σ := Sc_of eS S
        have ra := rowPointerAt_X B1 S1 D1 O1 (n := 268) h1 (by rw [eQ, eG]; exact h2) hl1 (by omega) (by omega) (by omega)
        obtain ⟨d2, D2, f2⟩ := gR_X B1 S1 D1 C1 O1 lc1 lc2 h1 (by rw [eQ, eG]; exact h2) hl1 (by omega) (by rw [e4]; have := lb2.1; omega) (by omega) (by omega)
        rw [hX] at D2
        have S2 : Sc X σ := Sc_of eS' S
        have pa := pointerAt_X B2 S2 D2 O2 (n := 268) h1 (by rw [eQ', eG']; exact h2) hl2 (by omega) (fun _ h => by omega) (fun _ => ⟨by rw [g4]; have := lb2.1; omega, by omega⟩)
        obtain ⟨d3, D3, f3⟩ := gB_X B2 S2 D2 C2 O2 ld1 ld2 h1 (by rw [eQ', eG']; exact h2) hl2 (by omega) (by omega) (fun _ h => by omega) (fun h => by omega)
        rw [g1] at f3
        rw [eP', eG'] at f3 pa
        rw [e3, Nat.mul_zero] at f2
        rw [eP, eG] at f2 ra
        refine ⟨d3, D3, ?_⟩
        have ia := inodeAt_X B S d h1 (by omega)
        have br := beginsRow_X nb (XD σ d1) (n := 268) (by omega)
        rw [if_pos rfl] at br
        rw [c268]
        simp (disch := omega) only [fXX4_addBlock_6_58, fXX4_addBlock_6_40, fXX4_addBlock_6_24, fXX4_addBlock_6_0, fXX4_addBlock_6, ia, lit, litN, nI_ltI', nI_leI', nI_eqI, nI_clampI, if_pos, if_neg, if_true, if_false, obs, nI_add, f1, br, ra, f2, pa, f3]
    · rw [if_neg c268]
      generalize hb : lb V = b at *
      obtain ⟨A1, n1⟩ := Stc_gB ⟨B, C, O⟩ lb1 lb2 hl
      refine ⟨A1, ⟨?_, ?_, ?_, ?_⟩, ?_, ?_, Ext_gB lb2.2.1, ?_, ?_⟩
      · rw [gB_sg, gB_mn, if_pos rfl, P1]; omega
      · rw [gB_db, gB_mn, if_pos rfl, P2]; omega
      · rw [gB_rn, gB_mn, if_pos rfl, P3]; split <;> split <;> omega
      · rw [gB_tw, if_pos rfl, gB_mn, if_pos rfl, P4, cost_alln (by omega)]; unfold cost; rw [if_neg c12, if_neg c268]; omega
      · rw [gB_mn, if_pos rfl]
      · unfold cost; rw [if_neg c12, if_neg c268]; omega
      · rw [gB_bl, if_pos ⟨rfl, rfl⟩]; have := lb2.1; omega
      · intro σ d S D
        have k1 : 12 ≤ vmn V i → vmn V i < 268 → vsg V i ≠ 0 := fun x y => P1.mpr (by omega)
        have k2 : 268 ≤ vmn V i → vdb V i ≠ 0 ∧ 0 < vrn V i := fun x => ⟨P2.mpr (by omega), by rw [P3, if_pos (by omega)]; omega⟩
        have pa := pointerAt_X B S D O (n := vmn V i) h1 h2 hl (by omega) k1 k2
        obtain ⟨d1, D1, f1⟩ := gB_X B S D C O lb1 lb2 h1 h2 hl (by omega) (by omega) k1 (fun x => by have := (k2 x).2; omega)
        refine ⟨d1, D1, ?_⟩
        have ia := inodeAt_X B S d h1 (by omega)
        have br := beginsRow_X nb (XD σ d) (n := vmn V i) (by omega)
        rw [if_neg c268] at br
        simp (disch := omega) only [fXX4_addBlock_6_58, fXX4_addBlock_6_40, fXX4_addBlock_6_24, fXX4_addBlock_6_0, fXX4_addBlock_6, ia, lit, litN, nI_ltI', nI_leI', nI_eqI, nI_clampI, if_pos, if_neg, if_true, if_false, obs, nI_add, br, pa, f1]
