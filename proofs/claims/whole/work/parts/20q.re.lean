-- two volumes that differ only in what the taking of blocks never looks at
def RE (V W : VV) : Prop := W.1 = V.1 ∧ vot W = vot V ∧ vmn W = vmn V ∧ vrn W = vrn V ∧ vsg W = vsg V ∧ vdb W = vdb V ∧ vbl W = vbl V ∧ vrw W = vrw V ∧ vdat W = vdat V
set_option maxRecDepth 4096 in
theorem RE_rfl (V : VV) : RE V V := ⟨rfl, rfl, rfl, rfl, rfl, rfl, rfl, rfl, rfl⟩
set_option maxRecDepth 4096 in
theorem RE_sym {V W : VV} (h : RE V W) : RE W V := by
  obtain ⟨a1, a2, a3, a4, a5, a6, a7, a8, a9⟩ := h
  exact ⟨a1.symm, a2.symm, a3.symm, a4.symm, a5.symm, a6.symm, a7.symm, a8.symm, a9.symm⟩
set_option maxRecDepth 4096 in
theorem RE_trans {V W X : VV} (h : RE V W) (g : RE W X) : RE V X := by
  obtain ⟨a1, a2, a3, a4, a5, a6, a7, a8, a9⟩ := h
  obtain ⟨b1, b2, b3, b4, b5, b6, b7, b8, b9⟩ := g
  exact ⟨b1.trans a1, b2.trans a2, b3.trans a3, b4.trans a4, b5.trans a5, b6.trans a6, b7.trans a7, b8.trans a8, b9.trans a9⟩
set_option maxRecDepth 4096 in
theorem lb_of {V W : VV} (h : vot W = vot V) : lb W = lb V := by
  have e : lowB W = lowB V := by funext b; unfold lowB; rw [h]
  unfold lb; rw [e]
set_option maxRecDepth 4096 in
theorem RE_gS {V W : VV} (h : RE V W) (i b : Nat) : RE (gS V i b) (gS W i b) := by
  obtain ⟨a1, a2, a3, a4, a5, a6, a7, a8, a9⟩ := h
  refine ⟨by rw [gS_S, gS_S, a1], funext fun c => by rw [gS_ot, gS_ot, a2], by rw [gS_mn, gS_mn, a3], by rw [gS_rn, gS_rn, a4], funext fun c => by rw [gS_sg, gS_sg, a5], by rw [gS_db, gS_db, a6], by rw [gS_bl, gS_bl, a7], by rw [gS_rw, gS_rw, a8], funext fun c => by rw [gS_dat, gS_dat, a9]⟩
set_option maxRecDepth 4096 in
theorem RE_gD {V W : VV} (h : RE V W) (i b : Nat) : RE (gD V i b) (gD W i b) := by
  obtain ⟨a1, a2, a3, a4, a5, a6, a7, a8, a9⟩ := h
  refine ⟨by rw [gD_S, gD_S, a1], funext fun c => by rw [gD_ot, gD_ot, a2], by rw [gD_mn, gD_mn, a3], by rw [gD_rn, gD_rn, a4], by rw [gD_sg, gD_sg, a5], funext fun c => by rw [gD_db, gD_db, a6], by rw [gD_bl, gD_bl, a7], by rw [gD_rw, gD_rw, a8], funext fun c => by rw [gD_dat, gD_dat, a9]⟩
set_option maxRecDepth 4096 in
theorem RE_gR {V W : VV} (h : RE V W) (i b : Nat) : RE (gR V i b) (gR W i b) := by
  obtain ⟨a1, a2, a3, a4, a5, a6, a7, a8, a9⟩ := h
  refine ⟨by rw [gR_S, gR_S, a1], funext fun c => by rw [gR_ot, gR_ot, a2], by rw [gR_mn, gR_mn, a3], funext fun c => by rw [gR_rn, gR_rn, a4], by rw [gR_sg, gR_sg, a5], by rw [gR_db, gR_db, a6], by rw [gR_bl, gR_bl, a7], funext fun j => funext fun c => by rw [gR_rw, gR_rw, a8, a4], funext fun c => by rw [gR_dat, gR_dat, a9]⟩
set_option maxRecDepth 4096 in
theorem RE_gB {V W : VV} (h : RE V W) (i b : Nat) : RE (gB V i b) (gB W i b) := by
  obtain ⟨a1, a2, a3, a4, a5, a6, a7, a8, a9⟩ := h
  refine ⟨by rw [gB_S, gB_S, a1], funext fun c => by rw [gB_ot, gB_ot, a2], funext fun c => by rw [gB_mn, gB_mn, a3], by rw [gB_rn, gB_rn, a4], by rw [gB_sg, gB_sg, a5], by rw [gB_db, gB_db, a6], funext fun j => funext fun c => by rw [gB_bl, gB_bl, a7, a3], by rw [gB_rw, gB_rw, a8], funext fun c => by rw [gB_dat, gB_dat, a9]⟩
set_option maxRecDepth 4096 in
theorem RE_addB {V W : VV} (h : RE V W) (i : Nat) : RE (addB V i) (addB W i) := by
  have l0 := lb_of h.2.1
  have em : vmn W i = vmn V i := by rw [h.2.2.1]
  unfold addB
  rw [em, l0]
  by_cases c : vmn V i = 12
  · rw [if_pos c, if_pos c]
    have h1 := RE_gS h i (lb V)
    rw [lb_of h1.2.1]
    exact RE_gB h1 i _
  · rw [if_neg c, if_neg c]
    by_cases c2 : vmn V i = 268
    · rw [if_pos c2, if_pos c2]
      have h1 := RE_gD h i (lb V)
      rw [lb_of h1.2.1]
      have h2 := RE_gR h1 i (lb (gD V i (lb V)))
      rw [lb_of h2.2.1]
      exact RE_gB h2 i _
    · rw [if_neg c2, if_neg c2]; exact RE_gB h i _
set_option maxRecDepth 4096 in
theorem RE_R {V W : VV} (h : RE V W) (f : Nat → Nat) : RE (setR V 15 f) (setR W 15 f) := by
  obtain ⟨a1, a2, a3, a4, a5, a6, a7, a8, a9⟩ := h
  exact ⟨a1, a2, a3, a4, a5, a6, a7, a8, by show va_up W.2.1 15 f 15 = va_up V.2.1 15 f 15; rw [va_up_self, va_up_self]⟩
-- the reference's relation goes over
set_option maxRecDepth 4096 in
theorem RM_RE {nb : Nat} {V W : VV} {τ : XS} {f : Nat → Nat} (R : RM nb V τ f) (h : RE V W) (ek : vkd W = vkd V) (ez : vsz W = vsz V) (el : vlk W = vlk V) (ep : vpar W = vpar V) (et : vtm W = vtm V) : RM nb W τ f := by
  obtain ⟨a1, a2, a3, a4, a5, a6, a7, a8, a9⟩ := h
  exact RM_V R a1 a2 ek ez el a3 a4 a5 a6 a7 a8 ep et a9
set_option maxRecDepth 4096 in
theorem RM_kd1 {nb : Nat} {V : VV} {τ : XS} {f : Nat → Nat} (R : RM nb V τ f) {i t h : Nat} (hi : i < 2100) (hm : vmn V i = 0) (hr : vrn V i = 0) : RM nb (setA (setA V 3 i t) 11 i h) (stA (stA τ 6 i (nI t)) 15 i (nI h)) f := by
  obtain ⟨r1, r2, r3, r4, r5, r6, r7, r8, r9⟩ := R
  have hk : ∀ j, vkd (setA (setA V 3 i t) 11 i h) j = if j = i then t else vkd V j := fun j => by
    show (setA V 3 i t).2.1 3 j = _
    by_cases c : j = i
    · rw [if_pos c, c]; exact setA_e _ _ _ _
    · rw [if_neg c]; exact setA_n _ _ _ c
  have hl : ∀ j, j ≠ i → live (setA (setA V 3 i t) 11 i h) j → live V j := fun j c l => by
    unfold live at l; rw [hk, if_neg c] at l; exact l
  refine ⟨r1, r2, fun j hj => ?_, fun j hj lj hmj => ?_, fun j hj lj => ?_, r6, fun j k hj lj hkk => ?_, fun j hj lj hrr => ?_, r9⟩
  · obtain ⟨s1, s⟩ := r3 j hj
    refine ⟨?_, s⟩
    rw [stA_at, if_neg (by omega), stA_at, hk]
    by_cases c : j = i
    · rw [if_pos ⟨rfl, c⟩, if_pos c]
    · rw [if_neg (fun e => c e.2), if_neg c]; exact s1
  · have c : j ≠ i := fun e => by have hmj : 1 ≤ vmn V j := hmj; rw [e, hm] at hmj; omega
    exact r4 j hj (hl j c lj) hmj
  · show (stA (stA τ 6 i (nI t)) 15 i (nI h)).2.1 15 j = nI ((setA (setA V 3 i t) 11 i h).2.1 11 j)
    rw [stA_at]
    by_cases c : j = i
    · rw [if_pos ⟨rfl, c⟩, c, setA_e]
    · rw [if_neg (fun e => c e.2), setA_n _ _ _ c]; exact r5 j hj (hl j c lj)
  · have c : j ≠ i := fun e => by have hkk : k < vmn V j := hkk; rw [e, hm] at hkk; omega
    exact r7 j k hj (hl j c lj) hkk
  · have c : j ≠ i := fun e => by have hrr : 0 < vrn V j := hrr; rw [e, hr] at hrr; omega
    exact r8 j hj (hl j c lj) hrr
