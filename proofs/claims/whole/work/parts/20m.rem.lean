set_option maxRecDepth 4096 in
theorem Stc_eq {nb : Nat} {V W : VV} (A : Stc nb V) (e0 : W.1 = V.1) (e1 : vot W = vot V) (e2 : voi W = voi V) (e3 : vok W = vok V) (ek : vkd W = vkd V) (e4 : vmn W = vmn V) (e5 : vrn W = vrn V) (e6 : vsg W = vsg V) (e7 : vdb W = vdb V) (e8 : vbl W = vbl V) (e9 : vrw W = vrw V) (e10 : vFB W = vFB V) (e11 : vfb W = vfb V) : Stc nb W := by
  obtain ⟨B, C, O⟩ := A
  refine ⟨Bas_of e0 e1 B, (CntB_of e0 e10 e11 (fun c => by rw [e1]) C).1, ?_⟩
  unfold OwnC live at *
  rw [e1, e2, e3, ek, e4, e5, e6, e7, e8, e9]; exact O
set_option maxRecDepth 4096 in
theorem CntI_of {V W : VV} (e1 : W.1 = V.1) (h1 : vFI W = vFI V) (h2 : vfi W = vfi V) (hk : ∀ j, vkd W j = 0 ↔ vkd V j = 0) (C : CntI V) : CntI W := by
  have eQ : vQ W = vQ V := congrFun e1 1
  have eG : vG W = vG V := congrFun e1 2
  have hp : pfi W = pfi V := by
    funext i; unfold pfi
    by_cases c : vkd V i = 0
    · rw [if_pos c, if_pos ((hk i).mpr c)]
    · rw [if_neg c, if_neg (fun e => c ((hk i).mp e))]
  intro y hy
  rw [eQ] at hy
  refine ⟨?_, fun x hx => ?_⟩
  · rw [h1, (C y hy).1]; unfold nfi; rw [eQ, eG, hp]
  · rw [eQ] at hx; rw [h2, (C y hy).2 x hx]; unfold nfig; rw [eG, hp]
set_option maxRecDepth 4096 in
theorem RM_V {nb : Nat} {V W : VV} {τ : XS} {f : Nat → Nat} (R : RM nb V τ f) (e0 : W.1 = V.1) (e1 : vot W = vot V) (ek : vkd W = vkd V) (ez : vsz W = vsz V) (el : vlk W = vlk V) (e4 : vmn W = vmn V) (e5 : vrn W = vrn V) (e6 : vsg W = vsg V) (e7 : vdb W = vdb V) (e8 : vbl W = vbl V) (e9 : vrw W = vrw V) (ep : vpar W = vpar V) (et : vtm W = vtm V) (ed : vdat W = vdat V) : RM nb W τ f := by
  obtain ⟨r1, r2, r3, r4, r5, r6, r7, r8, r9⟩ := R
  refine ⟨RMs_of e0 r1, ?_, ?_, ?_, ?_, ?_, ?_, ?_, ?_⟩
  · rw [e1]; exact r2
  · unfold fst0 far0 at *; rw [ek, ez, el, e4, e6, e7, e8, e5, e9]; exact r3
  · unfold live at *; rw [ek, e4, e8]; exact r4
  · unfold live at *; rw [ek, ep]; exact r5
  · rw [et]; exact r6
  · unfold live at *; rw [ek, e4, e8]; exact r7
  · unfold live at *; rw [ek, e5, e9]; exact r8
  · rw [e1, ed]; exact r9
set_option maxRecDepth 4096 in
theorem RM_kd0 {nb : Nat} {V : VV} {τ : XS} {f : Nat → Nat} (R : RM nb V τ f) (i t : Nat) (ht : t ≠ 1 ∧ t ≠ 2) : RM nb (setA V 3 i t) (stA τ 6 i (nI t)) f := by
  obtain ⟨r1, r2, r3, r4, r5, r6, r7, r8, r9⟩ := R
  have hk : ∀ j, vkd (setA V 3 i t) j = if j = i then t else vkd V j := fun j => by
    by_cases c : j = i
    · rw [if_pos c, c]; exact setA_e _ _ _ _
    · rw [if_neg c]; exact setA_n _ _ _ c
  have hl : ∀ j, live (setA V 3 i t) j → live V j := fun j h => by
    unfold live at h; rw [hk] at h
    by_cases c : j = i
    · rw [if_pos c] at h; omega
    · rw [if_neg c] at h; exact h
  refine ⟨r1, r2, fun j hj => ?_, fun j hj lj => r4 j hj (hl j lj), fun j hj lj => r5 j hj (hl j lj), r6, fun j k hj lj => r7 j k hj (hl j lj), fun j hj lj => r8 j hj (hl j lj), r9⟩
  obtain ⟨s1, s⟩ := r3 j hj
  refine ⟨?_, s⟩
  rw [stA_at, hk]
  by_cases c : j = i
  · rw [if_pos ⟨rfl, c⟩, if_pos c]
  · rw [if_neg (fun e => c e.2), if_neg c]; exact s1
set_option maxRecDepth 4096 in
theorem Gcut_out {f : Nat → Nat} {a x : Nat} {z : Option Nat} (ha : a % 1024 + 12 ≤ 1024) (hz : ∀ y, z = some y → y / 1024 = a / 1024 ∧ y % 1024 + 12 ≤ 1024) (h : x / 1024 ≠ a / 1024) : Gcut a z f x = f x := by
  cases z with
  | none => show wrN f a 4 0 x = _; unfold wrN; rw [if_neg (by omega)]
  | some y => have := hz y rfl; show wrN f (y + 4) 2 _ x = _; unfold wrN; rw [if_neg (by omega)]
set_option maxRecDepth 4096 in
theorem rem_Good {nb : Nat} {V W : VV} (G : Good nb V) {h a i kb : Nat} {z : Option Nat} (hk : vkd V h = 2) (ha : a ∈ itm (vdat V) (fl V h)) (hi : rd4 (vdat V) a = i) (hemp : vkd V i = 2 → itm (vdat V) (fl V i) = []) (hkb : kb < vmn V h) (hz : (z = none ∧ a % 1024 = 0) ∨ ∃ y, z = some y ∧ a % 1024 ≠ 0) (hzb : ∀ y, z = some y → y / 1024 = a / 1024 ∧ y % 1024 + 12 ≤ 1024)
    (hin : a ∈ ves V h kb) (hv : NewL (ves V h kb) (ves W h kb) a z) (hvo : ∀ j k, (j ≠ h ∨ k ≠ kb) → ves W j k = ves V j k)
    (A : Stc nb W) (CI : CntI W) (e1 : W.1 = V.1) (ek : ∀ j, vkd W j = if j = i then 0 else vkd V j) (elk : vlk W h + (if vkd V i = 2 then 1 else 0) = vlk V h) (elo : ∀ j, j ≠ h → j ≠ i → vlk W j = vlk V j)
    (ej : ∀ j, j ≠ i → vsz W j = vsz V j ∧ vmn W j = vmn V j ∧ vrn W j = vrn V j ∧ vtw W j = vtw V j ∧ vsg W j = vsg V j ∧ vdb W j = vdb V j ∧ vtm W (3 * j) = vtm V (3 * j) ∧ vtm W (3 * j + 1) = vtm V (3 * j + 1) ∧ vtm W (3 * j + 2) = vtm V (3 * j + 2))
    (ei : vsz W i = 0 ∧ vlk W i = 0 ∧ vmn W i = 0 ∧ vrn W i = 0 ∧ vtw W i = 0 ∧ vsg W i = 0 ∧ vdb W i = 0 ∧ vtm W (3 * i) = 0 ∧ vtm W (3 * i + 1) = 0 ∧ vtm W (3 * i + 2) = 0)
    (et : ∀ x, vtm W x ≤ vtm V x) (ep : vpar W = vpar V) (ee : vent W = vent V) (edp : vdp W = vdp V) (eb : vbl W = vbl V) (ed : vdat W = Gcut a z (vdat V)) (hr : ∀ b, okt nb (vot W b) b)
    (edc : ∀ y x, y < vQ V → x < vQ V → vdc W y x + (if vkd V i = 2 ∧ x = (i - 1) / vG V then 1 else 0) = vdc V y x) : Good nb W := by
  have G0 := G
  obtain ⟨hlh, Dh, D2h, hLh⟩ := dirF G hk
  have Ea := dirE Dh ha
  rw [Ent, hi] at Ea
  have hig := G.ino Ea.2.2.1
  have hgl := G_lt G.1.1
  obtain ⟨g1, g2, g3, g4, g5, g6, g7, g8, g9, g10, g11, g12, g13, g14⟩ := G
  have hih : i ≠ h := fun e => by
    have := hemp (by rw [e]; exact hk)
    rw [e] at this; rw [this] at ha; cases ha
  have hi2 : i ≠ 2 := fun e => by have := Ea.1; omega
  have O := g1.2.2
  have ekn : ∀ j, j ≠ i → vkd W j = vkd V j := fun j hj => by rw [ek, if_neg hj]
  have eki : vkd W i = 0 := by rw [ek, if_pos rfl]
  have hlv : ∀ j, live W j → live V j ∧ j ≠ i := fun j h => by
    have : j ≠ i := fun e => by rw [e] at h; unfold live at h; omega
    unfold live at *; rw [ekn j this] at h; exact ⟨h, this⟩
  have eQ : vQ W = vQ V := congrFun e1 1
  have eG : vG W = vG V := congrFun e1 2
  have eI : vI W = vI V := congrFun e1 3
  have eM : vmd W = vmd V := congrFun e1 4
  have haA := (fl_adr O hlh Dh.1 (itm_mem ha).1)
  obtain ⟨ka, ka1, ka2, ka3, ka4, ka5⟩ := haA
  have hsam : ∀ j, vkd V j = 2 → j ≠ i → j ≠ h → SamD V W j := fun j hj hji hjh => by
    obtain ⟨x1, x2, _⟩ := ej j hji
    refine ⟨x2, x1, fun k _ => by rw [eb], funext fun k => hvo j k (.inl hjh), fun k hk' o ho => ?_⟩
    rw [ed]
    refine Gcut_out ka2.2.2.2 hzb ?_
    rw [show (1024 * vbl V j k + o) / 1024 = vbl V j k by omega, ka3]
    intro e
    have o1 := O.1 j k (.inr hj) hk'; have o2 := O.1 h ka hlh ka1
    rw [e] at o1; omega
  have RD := rem_Dir (W := W) G0 hk ha hkb hz hin hv (fun k hk => hvo h k (.inr hk)) e1 (ej h (fun e => hih e.symm)).2.1 (ej h (fun e => hih e.symm)).1 (fun k _ => by rw [eb]) (by rw [ep]) (fun j hj => by rw [hi] at hj; rw [ekn j hj, ep, ee]; exact ⟨rfl, rfl, rfl⟩) (fun k o _ _ => by rw [ed]) (by rw [hi]; exact elk)
  have chg := nfi_chg (W := W) g1.1 e1 hig.1 hig.2.1 ekn
  refine ⟨A, CI, fun y hy x hx => ?_, fun j lj => ?_, fun j lj => ?_, ?_, hr, fun j lj hne => ?_, by rw [ep]; exact g9, fun j hj => ?_, fun j hj hne => ?_, fun x => Nat.lt_of_le_of_lt (et x) (g12 x), by rw [eI, eM]; exact g13, fun j hj => ?_⟩
  · rw [eQ] at hy hx
    have d1 := edc y x hy hx
    rw [g3 y hy x hx] at d1
    have p0 : pdc W i = 0 := by unfold pdc; rw [eki, if_neg (by omega)]
    by_cases c : x = (i - 1) / vG V
    · have c4 := chg.2.2.2.1
      rw [← c, p0] at c4
      unfold pdc at c4
      by_cases c2 : vkd V i = 2
      · rw [if_pos ⟨c2, c⟩] at d1; rw [if_pos c2] at c4; omega
      · rw [if_neg (fun e => c2 e.1)] at d1; rw [if_neg c2] at c4; omega
    · rw [if_neg (fun e => c e.2)] at d1
      rw [chg.2.2.2.2 x c]; omega
  · obtain ⟨l1, l2⟩ := hlv j lj
    obtain ⟨x1, x2, x3, x4, x5, x6, _⟩ := ej j l2
    have := g4 j l1
    unfold Shp; rw [x1, x2, x3, x4, x5, x6]; exact this
  · by_cases c : j = i
    · rw [c]; exact ei
    · have lj' : ¬ live V j := fun e => lj (by unfold live at *; rw [ekn j c]; exact e)
      obtain ⟨x1, x2, x3, x4, x5, x6, x7, x8, x9⟩ := ej j c
      have hjh : j ≠ h := fun e => lj' (by rw [e]; exact hlh)
      rw [x1, x2, x3, x4, x5, x6, x7, x8, x9, elo j hjh c]; exact g5 j lj'
  · obtain ⟨y1, y2, y3, y4, y5, y6⟩ := g6
    refine ⟨fun j => ?_, ?_, fun j hj => ?_, fun j h1 h2 h3 => ?_, ?_, fun j hj => ?_⟩
    · rw [ek]; split
      · omega
      · exact y1 j
    · rw [ek]; split
      · rfl
      · exact y2
    · rw [eQ, eG] at hj; rw [ek]; split
      · rfl
      · exact y3 j hj
    · rw [ekn j (by have := Ea.1; omega)]; exact y4 j h1 h2 h3
    · rw [ekn 2 (fun e => hi2 e.symm)]; exact y5
    · rw [ek]; split
      · omega
      · exact y6 j hj
  · obtain ⟨l1, l2⟩ := hlv j lj
    obtain ⟨p1, p2, p3⟩ := g8 j l1 hne
    have hpi : vpar V j ≠ i := fun e => by
      have := hemp (by rw [← e]; exact p1)
      rw [← e] at this; rw [this] at p2; cases p2
    rw [ep, ee, ekn _ hpi]
    by_cases c : vpar V j = h
    · rw [c] at p2 ⊢
      have hva : vent V j ≠ a := fun e => by rw [e, hi] at p3; exact l2 p3.symm
      have hm : vent V j ∈ itm (vdat W) (fl W h) := by rw [RD.2.1]; exact List.mem_filter.mpr ⟨p2, by simp [hva]⟩
      exact ⟨hk, hm, by rw [RD.2.2 _ hm]; exact p3⟩
    · have hs := hsam _ p1 hpi c
      have DS := (g14 _ p1).1
      rw [sam_itm O (.inr p1) DS hs, sam_4 O (.inr p1) DS hs (itm_mem p2).1]
      exact ⟨p1, p2, p3⟩
  · have hji : j ≠ i := fun e => by rw [e] at hj; omega
    rw [ekn j hji] at hj
    rw [elo j (fun e => by rw [e] at hj; omega) hji]; exact g10 j hj
  · have hji : j ≠ i := fun e => by rw [e] at hj; omega
    rw [ekn j hji] at hj
    rw [ep, edp]; exact g11 j hj hne
  · have hji : j ≠ i := fun e => by rw [e] at hj; omega
    rw [ekn j hji] at hj
    by_cases c : j = h
    · rw [c]; exact RD.1
    · refine DirI_fr O (.inr hj) (hsam j hj hji c) e1 (elo j c hji) (by rw [ep]) (fun e he => ?_) (g14 j hj)
      have Ee := dirE (g14 j hj) he
      have hne2 : rd4 (vdat V) e ≠ i := fun q => by
        have y1 := Ee.2.2.2.1; rw [q, Ea.2.2.2.1] at y1; exact c y1.symm
      rw [ekn _ hne2, ep, ee]; exact ⟨rfl, rfl, rfl⟩
