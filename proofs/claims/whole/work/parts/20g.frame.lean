-- directories that are not touched
def SamD (V W : VV) (j : Nat) : Prop := vmn W j = vmn V j ∧ vsz W j = vsz V j ∧ (∀ k, k < vmn V j → vbl W j k = vbl V j k) ∧ ves W j = ves V j ∧ ∀ k, k < vmn V j → ∀ o, o < 1024 → vdat W (1024 * vbl V j k + o) = vdat V (1024 * vbl V j k + o)
set_option maxRecDepth 4096 in
theorem sam_fl {V W : VV} {j : Nat} (h : SamD V W j) : fl W j = fl V j := by unfold fl; rw [h.1, h.2.2.2.1]
set_option maxRecDepth 4096 in
theorem sam_d {nb : Nat} {V W : VV} {j : Nat} (O : OwnC nb V) (hl : live V j) (H : DS nb V j) (h : SamD V W j) {a : Nat} (ha : a ∈ fl V j) (o : Nat) (ho : a % 1024 + o < 1024) : vdat W (a + o) = vdat V (a + o) := by
  obtain ⟨k, k1, k2, k3, k4, k5⟩ := fl_adr O hl H ha
  have e : a + o = 1024 * vbl V j k + (a % 1024 + o) := by omega
  rw [e]; exact h.2.2.2.2 k k1 _ ho
set_option maxRecDepth 4096 in
theorem sam_4 {nb : Nat} {V W : VV} {j : Nat} (O : OwnC nb V) (hl : live V j) (H : DS nb V j) (h : SamD V W j) {a : Nat} (ha : a ∈ fl V j) : rd4 (vdat W) a = rd4 (vdat V) a := by
  obtain ⟨k, k1, k2, k3, k4, k5⟩ := fl_adr O hl H ha
  have e := sam_d O hl H h ha 0 (by omega)
  rw [Nat.add_zero] at e
  unfold rd4; rw [e, sam_d O hl H h ha 1 (by omega), sam_d O hl H h ha 2 (by omega), sam_d O hl H h ha 3 (by omega)]
set_option maxRecDepth 4096 in
theorem sam_2 {nb : Nat} {V W : VV} {j : Nat} (O : OwnC nb V) (hl : live V j) (H : DS nb V j) (h : SamD V W j) {a : Nat} (ha : a ∈ fl V j) : rd2 (vdat W) (a + 4) = rd2 (vdat V) (a + 4) := by
  obtain ⟨k, k1, k2, k3, k4, k5⟩ := fl_adr O hl H ha
  unfold rd2; rw [sam_d O hl H h ha 4 (by omega), Nat.add_assoc, sam_d O hl H h ha 5 (by omega)]
set_option maxRecDepth 4096 in
theorem sam_itm {nb : Nat} {V W : VV} {j : Nat} (O : OwnC nb V) (hl : live V j) (H : DS nb V j) (h : SamD V W j) : itm (vdat W) (fl W j) = itm (vdat V) (fl V j) := by
  rw [sam_fl h]
  unfold itm
  refine List.filter_congr (fun a ha => ?_)
  unfold nz; rw [sam_4 O hl H h (List.mem_of_mem_drop ha)]
set_option maxRecDepth 4096 in
theorem Seg_fr {f g : Nat → Nat} : ∀ (l : List Nat) (a e : Nat), (∀ x, a ≤ x → x < e → g x = f x) → Seg f l a e → Seg g l a e := by
  intro l
  induction l with
  | nil => intro a e _ h; exact h
  | cons x l ih =>
    intro a e hfg h
    obtain ⟨h1, h2, h3, h4, h5⟩ := h
    have er : rd2 g (a + 4) = rd2 f (a + 4) := by unfold rd2; rw [hfg (a + 4) (by omega) (by omega), hfg (a + 4 + 1) (by omega) (by omega)]
    refine ⟨h1, by rw [er]; exact h2, by rw [er]; exact h3, by rw [er]; exact h4, ?_⟩
    rw [er]; exact ih _ _ (fun y hy1 hy2 => hfg y (by omega) hy2) h5
set_option maxRecDepth 4096 in
theorem Ent_fr {nb : Nat} {V W : VV} {j : Nat} (O : OwnC nb V) (hl : live V j) (H : DS nb V j) (h : SamD V W j) {a : Nat} (ha : a ∈ fl V j) (e1 : W.1 = V.1) (ek : vkd W (rd4 (vdat V) a) = vkd V (rd4 (vdat V) a)) (ep : vpar W (rd4 (vdat V) a) = vpar V (rd4 (vdat V) a)) (ee : vent W (rd4 (vdat V) a) = vent V (rd4 (vdat V) a)) (E : Ent nb V j a) : Ent nb W j a := by
  obtain ⟨x1, x2, x3, x4, x5, x6, x7, x8, x9, x10, x11⟩ := E
  obtain ⟨k, k1, k2, k3, k4, k5⟩ := fl_adr O hl H ha
  have hs := spc_ge (vdat V (a + 6) % 256)
  have r4 := sam_4 O hl H h ha
  have r2 := sam_2 O hl H h ha
  have d6 := sam_d O hl H h ha 6 (by omega)
  have d7 := sam_d O hl H h ha 7 (by omega)
  have eQ : vQ W = vQ V := congrFun e1 1
  have eG : vG W = vG V := congrFun e1 2
  have d8 : ∀ k, k < vdat V (a + 6) % 256 → vdat W (a + 8 + k) = vdat V (a + 8 + k) := fun k hk => by rw [Nat.add_assoc]; exact sam_d O hl H h ha (8 + k) (by omega)
  unfold Ent
  rw [r4, r2, d6, d7, eQ, eG, ek, ep, ee]
  refine ⟨x1, x2, ?_, x4, x5, x6, x7, fun k hk => ?_, ?_, x10, fun o o1 o2 => ?_⟩
  · unfold live; rw [ek]; exact x3
  · rw [d8 k hk]; exact x8 k hk
  · have e8 := d8 0 (by omega)
    rw [Nat.add_zero] at e8
    rw [e8]
    intro ⟨y1, y2⟩
    refine x9 ⟨y1, ?_⟩
    rcases y2 with y2 | ⟨y2, y3⟩
    · exact .inl y2
    · right
      have e9 := d8 1 (by omega)
      rw [show a + 8 + 1 = a + 9 by omega] at e9
      rw [e9] at y3; exact ⟨y2, y3⟩
  · rw [sam_d O hl H h ha o (by omega)]; exact x11 o o1 o2
set_option maxRecDepth 4096 in
theorem DirI_fr {nb : Nat} {V W : VV} {j : Nat} (O : OwnC nb V) (hl : live V j) (h : SamD V W j) (e1 : W.1 = V.1) (hlk : vlk W j = vlk V j) (hpj : vpar W j = vpar V j) (hit : ∀ a, a ∈ itm (vdat V) (fl V j) → vkd W (rd4 (vdat V) a) = vkd V (rd4 (vdat V) a) ∧ vpar W (rd4 (vdat V) a) = vpar V (rd4 (vdat V) a) ∧ vent W (rd4 (vdat V) a) = vent V (rd4 (vdat V) a)) (D : DirI nb V j) : DirI nb W j := by
  obtain ⟨H, ⟨r, hr⟩, dt, hE, hN, hL⟩ := D
  have H1 := H.1
  have e0 := h.2.2.1 0 (by omega)
  have ei := sam_itm O hl H h
  have in0 : ∀ o, o < 1024 → vdat W (1024 * vbl V j 0 + o) = vdat V (1024 * vbl V j 0 + o) := fun o ho => h.2.2.2.2 0 (by omega) o ho
  refine ⟨⟨by rw [h.1]; exact H1, by rw [h.1, h.2.1]; exact H.2.1, fun k hk => ?_⟩, ⟨r, by rw [h.2.2.2.1, e0]; exact hr⟩, ?_, fun a ha => ?_, fun a b ha hb hne => ?_, ?_⟩
  · rw [h.1] at hk
    rw [h.2.2.1 k hk, h.2.2.2.1]
    refine Seg_fr _ _ _ (fun x hx1 hx2 => ?_) (H.2.2 k hk)
    obtain ⟨o, rfl⟩ : ∃ o, x = 1024 * vbl V j k + o := ⟨x - 1024 * vbl V j k, by omega⟩
    exact h.2.2.2.2 k hk o (by omega)
  · obtain ⟨d1, d2, d3, ⟨d4, d5, d6, d7⟩, d8, d9, d10, d11, d12⟩ := dt
    have i0 := in0 0 (by omega)
    rw [Nat.add_zero] at i0
    unfold Dots
    rw [e0, hpj]
    refine ⟨?_, ?_, ?_, ⟨?_, ?_, ?_, fun o o1 o2 => ?_⟩, ?_, ?_, ?_, ?_, fun o o1 o2 => ?_⟩
    · refine Eq.trans ?_ d1; unfold rd4; rw [i0, in0 1 (by omega), in0 2 (by omega), in0 3 (by omega)]
    · refine Eq.trans ?_ d2; unfold rd4; rw [in0 12 (by omega), show 1024 * vbl V j 0 + 12 + 1 = 1024 * vbl V j 0 + 13 from rfl, show 1024 * vbl V j 0 + 12 + 2 = 1024 * vbl V j 0 + 14 from rfl, show 1024 * vbl V j 0 + 12 + 3 = 1024 * vbl V j 0 + 15 from rfl, in0 13 (by omega), in0 14 (by omega), in0 15 (by omega)]
    · refine Eq.trans ?_ d3; unfold rd2; rw [in0 4 (by omega), show 1024 * vbl V j 0 + 4 + 1 = 1024 * vbl V j 0 + 5 from rfl, in0 5 (by omega)]
    · rw [in0 6 (by omega)]; exact d4
    · rw [in0 7 (by omega)]; exact d5
    · rw [in0 8 (by omega)]; exact d6
    · rw [in0 o (by omega)]; exact d7 o o1 o2
    · rw [in0 18 (by omega)]; exact d8
    · rw [in0 19 (by omega)]; exact d9
    · rw [in0 20 (by omega)]; exact d10
    · rw [in0 21 (by omega)]; exact d11
    · rw [in0 o (by omega)]; exact d12 o o1 o2
  · rw [sam_fl h] at ha
    have ha' := List.mem_of_mem_drop ha
    rcases hE a ha with x | x
    · left; rw [sam_4 O hl H h ha']; exact x
    · right
      have hm : a ∈ itm (vdat V) (fl V j) := List.mem_filter.mpr ⟨ha, nz_t.mpr (by have := x.1; omega)⟩
      obtain ⟨y1, y2, y3⟩ := hit a hm
      exact Ent_fr O hl H h ha' e1 y1 y2 y3 x
  · rw [ei] at ha hb
    intro hs
    have iha := itm_mem ha; have ihb := itm_mem hb
    refine hN a b ha hb hne ?_
    obtain ⟨ka, _, _, _, ka4, ka5⟩ := fl_adr O hl H iha.1
    obtain ⟨kb, _, _, _, kb4, kb5⟩ := fl_adr O hl H ihb.1
    have mf : ∀ a, a ∈ itm (vdat V) (fl V j) → Ent nb V j a := fun a ha => by
      obtain ⟨m1, m2⟩ := List.mem_filter.mp ha
      rcases hE a m1 with x | x
      · exact absurd x.1 (nz_t.mp m2)
      · exact x
    have sa := spc_ge (vdat V (a + 6) % 256); have sa2 := (mf a ha).2.2.2.2.2.2.2.2.2.1
    have sb' := spc_ge (vdat V (b + 6) % 256); have sb2 := (mf b hb).2.2.2.2.2.2.2.2.2.1
    have da := sam_d O hl H h iha.1 6 (by omega)
    have db := sam_d O hl H h ihb.1 6 (by omega)
    obtain ⟨s1, s2⟩ := hs
    rw [da, db] at s1
    refine ⟨s1, fun k hk => ?_⟩
    have s3 := s2 k (by rw [da]; exact hk)
    rw [Nat.add_assoc, Nat.add_assoc, sam_d O hl H h iha.1 (8 + k) (by omega), sam_d O hl H h ihb.1 (8 + k) (by omega), ← Nat.add_assoc, ← Nat.add_assoc] at s3
    exact s3
  · rw [ei, hlk, hL]
    congr 2
    refine (List.filter_congr (fun a ha => ?_)).symm ▸ rfl
    unfold isD
    rw [sam_4 O hl H h (itm_mem ha).1, (hit a ha).1]
set_option maxRecDepth 4096 in
theorem kd_of_CntI {V W : VV} (e1 : W.1 = V.1) (ek : vkd W = vkd V) (h1 : vFI W = vFI V) (h2 : vfi W = vfi V) (C : CntI V) : CntI W := by
  have eQ : vQ W = vQ V := congrFun e1 1
  have eG : vG W = vG V := congrFun e1 2
  have hp : pfi W = pfi V := by funext i; unfold pfi; rw [ek]
  intro y hy
  rw [eQ] at hy
  refine ⟨?_, fun x hx => ?_⟩
  · rw [h1, (C y hy).1]; unfold nfi; rw [eQ, eG, hp]
  · rw [eQ] at hx; rw [h2, (C y hy).2 x hx]; unfold nfig; rw [eG, hp]
set_option maxRecDepth 4096 in
theorem kd_of_CntD {V W : VV} (e1 : W.1 = V.1) (ek : vkd W = vkd V) (h2 : vdc W = vdc V) (C : CntD V) : CntD W := by
  have eQ : vQ W = vQ V := congrFun e1 1
  have eG : vG W = vG V := congrFun e1 2
  have hp : pdc W = pdc V := by funext i; unfold pdc; rw [ek]
  intro y hy x hx
  rw [eQ] at hy hx
  rw [h2, C y hy x hx]; unfold ndcg; rw [eG, hp]
-- a file changes its bytes
set_option maxRecDepth 4096 in
theorem Good_file {nb : Nat} {V W : VV} (G : Good nb V) {i : Nat} (hi : vkd V i = 1) (A : Stc nb W) (e1 : W.1 = V.1) (ek : vkd W = vkd V) (el : vlk W = vlk V) (ep : vpar W = vpar V) (ee : vent W = vent V) (ed : vdp W = vdp V) (eFI : vFI W = vFI V) (efi : vfi W = vfi V) (edc : vdc W = vdc V) (es : ves W = ves V) (et : vtm W = vtm V)
    (hj : ∀ j, j ≠ i → vmn W j = vmn V j ∧ vrn W j = vrn V j ∧ vtw W j = vtw V j ∧ vsg W j = vsg V j ∧ vdb W j = vdb V j ∧ vsz W j = vsz V j) (P : Shp W i) (hz : prt (vsz W i) = vmn W i) (hr : ∀ b, okt nb (vot W b) b)
    (hb : ∀ j k, j ≠ i → k < vmn V j → vbl W j k = vbl V j k) (hd : ∀ j k o, live V j → j ≠ i → k < vmn V j → o < 1024 → vdat W (1024 * vbl V j k + o) = vdat V (1024 * vbl V j k + o)) : Good nb W := by
  have hsam : ∀ j, vkd V j = 2 → SamD V W j := fun j hk => by
    have hne : j ≠ i := fun e => by rw [e] at hk; omega
    exact ⟨(hj j hne).1, (hj j hne).2.2.2.2.2, fun k hk' => hb j k hne hk', by rw [es], fun k hk' o ho => hd j k o (.inr hk) hne hk' ho⟩
  obtain ⟨g1, g2, g3, g4, g5, g6, g7, g8, g9, g10, g11, g12, g13, g14⟩ := G
  have eQ : vQ W = vQ V := congrFun e1 1
  have eG : vG W = vG V := congrFun e1 2
  have eI : vI W = vI V := congrFun e1 3
  have eM : vmd W = vmd V := congrFun e1 4
  have hlv : ∀ j, live W j ↔ live V j := fun j => by unfold live; rw [ek]
  refine ⟨A, kd_of_CntI e1 ek eFI efi g2, kd_of_CntD e1 ek edc g3, fun j lj => ?_, fun j lj => ?_, ?_, hr, fun j lj hne => ?_, by rw [ep]; exact g9, fun j hk => ?_, fun j hk hne => ?_, by rw [et]; exact g12, by rw [eI, eM]; exact g13, fun j hk => ?_⟩
  · by_cases c : j = i
    · subst c; exact ⟨P, hz⟩
    · obtain ⟨x1, x2, x3, x4, x5, x6⟩ := hj j c
      have := g4 j ((hlv j).mp lj)
      unfold Shp; rw [x1, x2, x3, x4, x5, x6]; exact this
  · have lj' : ¬ live V j := fun e => lj ((hlv j).mpr e)
    have hne : j ≠ i := fun e => lj' (by rw [e]; exact .inl hi)
    obtain ⟨x1, x2, x3, x4, x5, x6⟩ := hj j hne
    rw [el, et, x1, x2, x3, x4, x5, x6]; exact g5 j lj'
  · rw [ek, eQ, eG]; exact g6
  · have := g8 j ((hlv j).mp lj) hne
    rw [ep, ee, ek]
    have hs := hsam _ this.1
    have hlp : live V (vpar V j) := .inr this.1
    have DS := (g14 _ this.1).1
    rw [sam_itm g1.2.2 hlp DS hs, sam_4 g1.2.2 hlp DS hs (itm_mem this.2.1).1]
    exact this
  · rw [ek] at hk; rw [el]; exact g10 j hk
  · rw [ek] at hk; rw [ep, ed]; exact g11 j hk hne
  · rw [ek] at hk
    exact DirI_fr g1.2.2 (.inr hk) (hsam j hk) e1 (by rw [el]) (by rw [ep]) (fun a _ => by rw [ek, ep, ee]; exact ⟨rfl, rfl, rfl⟩) (g14 j hk)
