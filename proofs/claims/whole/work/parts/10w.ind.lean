set_option maxRecDepth 4096 in
theorem CntI_mkI {nb : Nat} {V : VV} (B : Bas nb V) (C : CntI V) {b t F f : Nat} (h1 : 1 ≤ b) (h2 : b ≤ vQ V * vG V) (hF : F + pfi V b = nfi V + (if t = 0 then 1 else 0)) (hf : f + pfi V b = nfig V ((b - 1) / vG V) + (if t = 0 then 1 else 0)) : CntI (mkI V b t F f) ∧ nfi (mkI V b t F f) = F := by
  have eQ : vQ (mkI V b t F f) = vQ V := congrFun (mkI_s V b t F f) 1
  have ek : ∀ c, vkd (mkI V b t F f) c = if c = b then t else vkd V c := mkI_t' V b t F f
  have hp : pfi (mkI V b t F f) b = if t = 0 then 1 else 0 := by unfold pfi; rw [ek, if_pos rfl]
  obtain ⟨c1, c2, c3, _⟩ := nfi_chg B (mkI_s V b t F f) h1 h2 (fun c hc => by rw [ek, if_neg hc])
  rw [hp] at c1 c2
  have e1 : nfi (mkI V b t F f) = F := by omega
  have e2 : nfig (mkI V b t F f) ((b - 1) / vG V) = f := by omega
  refine ⟨fun y hy => ⟨?_, fun x hx => ?_⟩, e1⟩
  · rw [e1]; unfold mkI; rw [show vFI (cnt (setA V 3 b t) 13 3 ((b - 1) / vG V) F f (vQ V)) y = _ from cnt_aa _ _ _ _ _ _ _ _, if_pos (by rw [← eQ]; exact hy)]
  · have e3 : vfi (mkI V b t F f) y x = if y < vQ V ∧ x = (b - 1) / vG V then f else vfi V y x := by
      unfold mkI; rw [show vfi (cnt (setA V 3 b t) 13 3 ((b - 1) / vG V) F f (vQ V)) y x = _ from cnt_tt _ _ _ _ _ _ _ _ _]; rfl
    rw [eQ] at hy hx
    rw [e3]
    by_cases c : x = (b - 1) / vG V
    · rw [if_pos ⟨hy, c⟩, c, e2]
    · rw [if_neg (fun e => c e.2), (C y hy).2 x hx, c3 x c]
def tkI (V : VV) (b : Nat) : VV := mkI V b 3 (nfi V - 1) (nfig V ((b - 1) / vG V) - 1)
def gvI (V : VV) (b : Nat) : VV := mkI V b 0 (nfi V + 1) (nfig V ((b - 1) / vG V) + 1)
set_option maxRecDepth 4096 in
theorem nfi_ge {nb : Nat} {V : VV} (B : Bas nb V) {i : Nat} (h1 : 1 ≤ i) (h2 : i ≤ vQ V * vG V) (h3 : vkd V i = 0) : 1 ≤ nfi V ∧ 1 ≤ nfig V ((i - 1) / vG V) := by
  obtain ⟨c1, c2, _⟩ := nfi_chg (W := setA V 3 i 1) B rfl h1 h2 (fun c hc => setA_n _ _ _ hc)
  have hp : pfi V i = 1 := by unfold pfi; rw [if_pos h3]
  have hp2 : pfi (setA V 3 i 1) i = 0 := by unfold pfi; rw [show vkd (setA V 3 i 1) i = 1 from setA_e _ _ _ _, if_neg (by omega)]
  omega
set_option maxRecDepth 4096 in
theorem take5_C {nb : Nat} {V : VV} {d : Nat → Nat} {σ : XS} (B : Bas nb V) (S : Sc V σ) (D : DX nb V d) (C : CntI V) {b : Nat} (h2 : b ≤ vQ V * vG V) (h3 : lowI V b) :
    ∃ d', DX nb (tkI V b) d' ∧ CntI (tkI V b) ∧ nfi (tkI V b) = nfi V - 1 ∧ fXX3_take_5 nb (XD σ d) = some (nI b, XD σ d') := by
  have hx := (B.1.ino h3.1 h2).1
  have hl := nfb_lt B
  have hl2 := hl.2.2.2.1 ((b - 1) / vG V)
  have hge := nfi_ge B h3.1 h2 h3.2.1
  obtain ⟨d', D', h⟩ := take5_X B S D h2 h3 (fun y hy => (C y hy).1) (fun y hy => (C y hy).2 _ hx) hge.1 hge.2 (by omega) (by omega)
  have hp : pfi V b = 1 := by unfold pfi; rw [h3.2.1]; rfl
  obtain ⟨c1, c2⟩ := CntI_mkI B C (t := 3) (F := nfi V - 1) (f := nfig V ((b - 1) / vG V) - 1) h3.1 h2 (by simp only [hp, if_neg (show ¬ (3 : Nat) = 0 by omega)]; omega) (by simp only [hp, if_neg (show ¬ (3 : Nat) = 0 by omega)]; omega)
  exact ⟨d', D', c1, c2, h⟩
set_option maxRecDepth 4096 in
theorem give5_C {nb : Nat} {V : VV} {d : Nat → Nat} {σ : XS} (B : Bas nb V) (S : Sc V σ) (D : DX nb V d) (C : CntI V) {b : Nat} (h1 : 1 ≤ b) (h2 : b ≤ vQ V * vG V) (h3 : vkd V b = 3) :
    ∃ d', DX nb (gvI V b) d' ∧ CntI (gvI V b) ∧ nfi (gvI V b) = nfi V + 1 ∧ fXX3_giveBack_5 nb (nI b) (XD σ d) = some (XD σ d') := by
  have hg := G_lt B
  have hx := (B.1.ino h1 h2).1
  have hl := nfb_lt B
  have hl2 := hl.2.2.2.1 ((b - 1) / vG V)
  obtain ⟨d', D', h⟩ := mark5_free B S D h1 h2 h3 (fun y hy => (C y hy).1) (fun y hy => (C y hy).2 _ hx) (by omega) (by omega)
  have hp : pfi V b = 0 := by unfold pfi; rw [h3]; rfl
  obtain ⟨c1, c2⟩ := CntI_mkI B C (t := 0) (F := nfi V + 1) (f := nfig V ((b - 1) / vG V) + 1) h1 h2 (by simp only [hp, if_true]) (by simp only [hp, if_true])
  refine ⟨d', D', c1, c2, ?_⟩
  have hu := isUsed5_X B S D h1 h2
  rw [if_pos (by omega)] at hu
  simp (disch := omega) only [fXX3_giveBack_5_0, fXX3_giveBack_5, lit, litN, nI_ltI', nI_leI', nI_eqI, nI_clampI, if_neg, hu, obs, h]
-- counts of directories
def cnD (V : VV) (x w : Nat) : Nat → VV
  | 0 => V
  | n + 1 => setT (cnD V x w n) 4 n x w
set_option maxRecDepth 4096 in
theorem cnD_s (V : VV) (x w n : Nat) : (cnD V x w n).1 = V.1 := by
  induction n with
  | zero => rfl
  | succ n ih => exact ih
set_option maxRecDepth 4096 in
theorem cnD_a (V : VV) (x w n : Nat) : (cnD V x w n).2.1 = V.2.1 := by
  induction n with
  | zero => rfl
  | succ n ih => exact ih
set_option maxRecDepth 4096 in
theorem cnD_l (V : VV) (x w n : Nat) : (cnD V x w n).2.2.2 = V.2.2.2 := by
  induction n with
  | zero => rfl
  | succ n ih => exact ih
set_option maxRecDepth 4096 in
theorem cnD_t (V : VV) {k : Nat} (x w n : Nat) (h : k ≠ 4) : (cnD V x w n).2.2.1 k = V.2.2.1 k := by
  induction n with
  | zero => rfl
  | succ n ih => rw [← ih]; exact setT_o _ _ _ _ h
set_option maxRecDepth 4096 in
theorem cnD_d (V : VV) (x w n c z : Nat) : vdc (cnD V x w n) c z = if c < n ∧ z = x then w else vdc V c z := by
  induction n with
  | zero => rw [if_neg (by omega)]; rfl
  | succ n ih =>
    show (setT (cnD V x w n) 4 n x w).2.2.1 4 c z = _
    by_cases h : c = n ∧ z = x
    · rw [h.1, h.2, setT_e, if_pos ⟨by omega, rfl⟩]
    · rw [setT_n _ _ _ (Decidable.not_and_iff_or_not.mp h)]
      show vdc (cnD V x w n) c z = _
      rw [ih]
      by_cases h2 : c < n ∧ z = x
      · rw [if_pos h2, if_pos (by omega)]
      · rw [if_neg h2, if_neg (by omega)]
set_option maxRecDepth 4096 in
theorem countD_X {nb : Nat} {V : VV} {d : Nat → Nat} {σ : XS} (B : Bas nb V) (S : Sc V σ) (D : DX nb V d) {i f w : Nat} {δ : Int32} (h1 : 1 ≤ i) (h2 : i ≤ vQ V * vG V) (hf : ∀ y, y < vQ V → vdc V y ((i - 1) / vG V) = f) (hf2 : f < 65536) (hd : nI f + δ = nI w) :
    ∃ d', DX nb (cnD V ((i - 1) / vG V) w (vQ V)) d' ∧ fXX4_countDirectories_6 nb (nI i) δ (XD σ d) = some (XD σ d') := by
  have hg := G_lt B
  have hx := (B.1.ino h1 h2).1
  have gi := groupOf_X B S d h1 (by omega)
  generalize (i - 1) / vG V = x at *
  have key : ∃ d', DX nb (cnD V x w (vQ V)) d' ∧ ∀ u : Unit, lfix ((fun _ k12 t => fXX4_countDirectories_6_12 nb k12 t.1 t.2.1 t.2.2.1 t.2.2.2) u) FU (δ, nI x, nI 0, XD σ d) = some (XD σ d') := by
    refine lfor (κ := Unit) (fun _ k12 t => fXX4_countDirectories_6_12 nb k12 t.1 t.2.1 t.2.2.1 t.2.2.2) (fun n (d' : Nat → Nat) => (δ, nI x, nI n, XD σ d')) (fun _ d' => some (XD σ d')) (vQ V) (fun n d' => DX nb (cnD V x w n) d') ?_ ?_ 0 d FU (Nat.zero_le _) D (by unfold FU; omega)
    · intro n d' hn D'
      have B' : Bas nb (cnD V x w n) := Bas_of (cnD_s V x w n) (by show (cnD V x w n).2.1 0 = V.2.1 0; rw [cnD_a]) B
      have S' : Sc (cnD V x w n) σ := Sc_of (cnD_s V x w n) S
      have eP : vP (cnD V x w n) = vP V := congrFun (cnD_s V x w n) 0
      have eQ : vQ (cnD V x w n) = vQ V := congrFun (cnD_s V x w n) 1
      have hl := fx_lt B hn (r := 1) (by omega)
      have e1 : vdc (cnD V x w n) n x = f := by rw [cnD_d, if_neg (by omega), hf n hn]
      have r := rd_dc B' D' (x := n) (y := x) (by rw [eQ]; exact hn) (by rw [eQ]; exact hx) (by rw [e1]; exact hf2)
      have D2 := DX_dc B' D' (c := n) (y := x) (by rw [eQ]; exact hn) (by rw [eQ]; exact hx) w
      rw [e1, eP] at r
      rw [eP] at D2
      refine ⟨_, D2, fun _ k => ?_⟩
      have pa := partAt_X B S d' n 1
      have gr := groups_X B S d'
      have e : 1024 * (1 + n * vP V + 1) + 32 * x + 16 = 1024 * (1 + n * vP V + 1) + (32 * x + 16) := by omega
      simp (disch := omega) only [fXX4_countDirectories_6_12, gr, obs, lit, litN, nI_ltI', nI_leI', nI_eqI, nI_clampI, if_neg, pa, nI_mul, nI_add, e, get2_X, r, hd, put2_X, wr2_N]
    · intro d' D' _ k
      have gr := groups_X B S d'
      simp (disch := omega) only [fXX4_countDirectories_6_12, gr, obs, lit, litN, nI_ltI', nI_leI', nI_eqI, nI_clampI, if_pos]
  obtain ⟨d', D', h⟩ := key
  refine ⟨d', D', ?_⟩
  have h' := h ()
  simp only [fXX4_countDirectories_6, fXX4_countDirectories_6_0, gi, obs, lit, litN]
  exact h'
set_option maxRecDepth 4096 in
theorem begin_X {nb : Nat} {V : VV} {d : Nat → Nat} {σ : XS} (B : Bas nb V) (S : Sc V σ) (D : DX nb V d) {i t : Nat} {y : Int32} (h1 : 1 ≤ i) (h2 : i ≤ vQ V * vG V) (hl : vkd V i = 3) (ht : t = 1 ∨ t = 2) (hy : y = if t = 2 then nI 1 else nI 0) (hz : vsz V i = 0 ∧ vlk V i = 0 ∧ vmn V i = 0 ∧ vtw V i = 0 ∧ vsg V i = 0 ∧ vdb V i = 0 ∧ vtm V (3 * i) = 0 ∧ vtm V (3 * i + 1) = 0 ∧ vtm V (3 * i + 2) = 0) :
    ∃ d', DX nb (setA (setA V 3 i t) 5 i t) d' ∧ fXX4_begin_6 nb (nI i) y (XD σ d) = some (XD σ d') := by
  have hg := G_lt B; have hA := inoA_lt B h1 h2
  have ia := inodeAt_X B S d h1 (by omega)
  have D1 := DX_kd B D h1 h2 hl ht hz
  have hl1 : live (setA V 3 i t) i := by unfold live; rw [show vkd (setA V 3 i t) i = t from setA_e _ _ _ _]; exact ht
  have D2 := DX_lk (V := setA V 3 i t) B D1 h1 h2 hl1 t
  have D2 : DX nb (setA (setA V 3 i t) 5 i t) (wrN (wrN d (inoA (vP V) (vG V) i) 2 (if t = 2 then 16877 else 33188)) (inoA (vP V) (vG V) i + 26) 2 t) := D2
  refine ⟨_, D2, ?_⟩
  rcases ht with rfl | rfl
  · rw [if_neg (by omega)] at hy; subst hy
    simp (disch := omega) only [fXX4_begin_6_46, fXX4_begin_6_26, fXX4_begin_6_0, fXX4_begin_6, ia, obs, lit, litN, if_true, nI_add, put2_X, wr2_N]; rfl
  · rw [if_pos rfl] at hy; subst hy
    simp (disch := omega) only [fXX4_begin_6_46, fXX4_begin_6_26, fXX4_begin_6_0, fXX4_begin_6, ia, obs, lit, litN, nI_ltI', nI_leI', nI_eqI, nI_clampI, if_neg, nI_add, put2_X, wr2_N]; rfl
set_option maxRecDepth 4096 in
theorem erase_X {nb : Nat} {V : VV} {d : Nat → Nat} {σ : XS} (B : Bas nb V) (S : Sc V σ) (D : DX nb V d) {i : Nat} (h1 : 1 ≤ i) (h2 : i ≤ vQ V * vG V) (hl : vkd V i ≠ 0) : ∃ d', DX nb (setA V 3 i 3) d' ∧ fXX4_erase_6 nb (nI i) (XD σ d) = some (XD σ d') := by
  have hg := G_lt B; have hA := inoA_lt B h1 h2
  have ia := inodeAt_X B S d h1 (by omega)
  refine ⟨_, DX_erase B D h1 h2 hl, ?_⟩
  simp (disch := omega) only [fXX4_erase_6_0, fXX4_erase_6, ia, obs, lit, litN, nI_add, fill_X]
set_option maxRecDepth 4096 in
theorem Stc_kd {nb : Nat} {V W : VV} (A : Stc nb V) {i : Nat} (e0 : W.1 = V.1) (e1 : vot W = vot V) (e2 : voi W = voi V) (e3 : vok W = vok V) (e4 : vmn W = vmn V) (e5 : vrn W = vrn V) (e6 : vsg W = vsg V) (e7 : vdb W = vdb V) (e8 : vbl W = vbl V) (e9 : vrw W = vrw V) (e10 : vFB W = vFB V) (e11 : vfb W = vfb V) (hk : ∀ j, j ≠ i → vkd W j = vkd V j) (z1 : vmn V i = 0) (z2 : vsg V i = 0) (z3 : vdb V i = 0) (z4 : vrn V i = 0) : Stc nb W ∧ nfb W = nfb V := by
  obtain ⟨B, C, O⟩ := A
  have c := CntB_of e0 e10 e11 (fun c => by rw [e1]) C
  refine ⟨⟨Bas_of e0 e1 B, c.1, ?_⟩, c.2⟩
  obtain ⟨o1, o2, o3, o4, o5, o6, o7, o8⟩ := O
  have z := B.2.2.1
  have hk1 : ∀ j, j ≠ i → (live W j ↔ live V j) := fun j hj => by unfold live; rw [hk j hj]
  refine ⟨fun j k hj hk => ?_, fun b hb ht => ?_, fun j hj h0 => ?_, fun b hb ht => ?_, fun j hj h0 => ?_, fun b hb ht => ?_, fun j k hj hk => ?_, fun b hb ht => ?_⟩
  · rw [e4] at hk; rw [e8, e1, e2, e3]
    have : j ≠ i := fun e => by subst e; omega
    exact o1 j k ((hk1 j this).mp hj) hk
  · rw [e1] at ht; rw [e2, e3, e4, e8]
    have h := o2 b hb ht
    have : voi V b ≠ i := fun e => by rw [e] at h; omega
    exact ⟨(hk1 _ this).mpr h.1, h.2⟩
  · rw [e6] at h0; rw [e6, e1, e2]
    have : j ≠ i := fun e => by subst e; omega
    exact o3 j ((hk1 j this).mp hj) h0
  · rw [e1] at ht; rw [e2, e6]
    have h := o4 b hb ht
    have : voi V b ≠ i := fun e => by
      rw [e, z2] at h; rw [← h.2] at ht; omega
    exact ⟨(hk1 _ this).mpr h.1, h.2⟩
  · rw [e7] at h0; rw [e7, e1, e2]
    have : j ≠ i := fun e => by subst e; omega
    exact o5 j ((hk1 j this).mp hj) h0
  · rw [e1] at ht; rw [e2, e7]
    have h := o6 b hb ht
    have : voi V b ≠ i := fun e => by
      rw [e, z3] at h; rw [← h.2] at ht; omega
    exact ⟨(hk1 _ this).mpr h.1, h.2⟩
  · rw [e5] at hk; rw [e9, e1, e2, e3]
    have : j ≠ i := fun e => by subst e; omega
    exact o7 j k ((hk1 j this).mp hj) hk
  · rw [e1] at ht; rw [e2, e3, e5, e9]
    have h := o8 b hb ht
    have : voi V b ≠ i := fun e => by rw [e] at h; omega
    exact ⟨(hk1 _ this).mpr h.1, h.2⟩
set_option maxRecDepth 4096 in
theorem img_of {nb : Nat} {V W : VV} (e0 : W.1 = V.1) (e1 : vot W = vot V) (e2 : voi W = voi V) (e3 : vok W = vok V) (e4 : vmn W = vmn V) (e5 : vrn W = vrn V) (e8 : vbl W = vbl V) (e9 : vrw W = vrw V) (e10 : vdat W = vdat V)
    (hf : ∀ x r o b, r < 4 → fx nb W x r o b = fx nb V x r o b) (hi : ∀ i o, ino W i o = ino V i o) (b o : Nat) : img nb W b o = img nb V b o := by
  have eP : vP W = vP V := congrFun e0 0
  have eG : vG W = vG V := congrFun e0 2
  have ep : ∀ i k, ptr W i k = ptr V i k := fun i k => ptr_of e4 e8 i k
  unfold img
  rw [e1, e2, e3, e5, e9, e10, eP]
  simp only [ep]
  by_cases c : vot V b = 2
  · rw [if_pos c, if_pos c]
    by_cases r : (b - 1) % vP V < 4
    · exact hf _ _ _ _ r
    · rw [fx_4 _ _ _ _ _ _ (by omega), fx_4 _ _ _ _ _ _ (by omega), eP, eG, hi]
  · rw [if_neg c, if_neg c]
-- a dead inode's fields are nobody's
set_option maxRecDepth 4096 in
theorem DX_deadA {nb : Nat} {V : VV} {d : Nat → Nat} (D : DX nb V d) {i v : Nat} (hl : ¬ live V i) : DX nb (setA V 5 i v) d := by
  intro b o hb ho ht
  rw [D b o hb ho ht]
  refine (img_of (V := V) (W := setA V 5 i v) rfl rfl rfl rfl rfl rfl rfl rfl rfl (fx_low (fun _ => rfl) rfl (fun _ _ => rfl) (fun _ _ => rfl) (fun _ _ => rfl)) (fun j o => ?_) b o).symm
  unfold ino
  by_cases c : j = i
  · subst c
    rw [if_neg (show ¬ (vkd (setA V 5 j v) j = 1 ∨ vkd (setA V 5 j v) j = 2) from hl), if_neg hl]
  · have e : inoF (setA V 5 i v) j = inoF V j := by
      unfold inoF; rw [show vlk (setA V 5 i v) j = vlk V j from setA_n _ _ _ c]; rfl
    rw [e]; rfl
set_option maxRecDepth 4096 in
theorem DX_deadT {nb : Nat} {V : VV} {d : Nat → Nat} (D : DX nb V d) {i w v : Nat} (hw : w < 3) (hl : ¬ live V i) : DX nb (setA V 16 (3 * i + w) v) d := by
  intro b o hb ho ht
  rw [D b o hb ho ht]
  refine (img_of (V := V) (W := setA V 16 (3 * i + w) v) rfl rfl rfl rfl rfl rfl rfl rfl rfl (fx_low (fun _ => rfl) rfl (fun _ _ => rfl) (fun _ _ => rfl) (fun _ _ => rfl)) (fun j o => ?_) b o).symm
  unfold ino
  by_cases c : j = i
  · subst c
    rw [if_neg (show ¬ (vkd (setA V 16 (3 * j + w) v) j = 1 ∨ vkd (setA V 16 (3 * j + w) v) j = 2) from hl), if_neg hl]
  · have e : inoF (setA V 16 (3 * i + w) v) j = inoF V j := by
      unfold inoF; rw [show vtm (setA V 16 (3 * i + w) v) (3 * j) = vtm V (3 * j) from setA_n _ _ _ (by omega), show vtm (setA V 16 (3 * i + w) v) (3 * j + 1) = vtm V (3 * j + 1) from setA_n _ _ _ (by omega), show vtm (setA V 16 (3 * i + w) v) (3 * j + 2) = vtm V (3 * j + 2) from setA_n _ _ _ (by omega)]; rfl
    rw [e]; rfl
