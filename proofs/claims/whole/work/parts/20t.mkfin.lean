set_option maxRecDepth 4096 in
theorem EntB_fr {f g : Nat → Nat} {e i ln n t : Nat} {w : Nat → Nat} (h : ∀ o, o < spc n → g (e + o) = f (e + o)) (E : EntB f e i ln n t w) : EntB g e i ln n t w := by
  have hs := spc_ge n
  obtain ⟨a1, a2, a3, a4, a5, a6⟩ := E
  refine ⟨?_, ?_, ?_, ?_, fun k hk => ?_, fun o h1 h2 => ?_⟩
  · rw [rd4_eq (fun o ho => h o (by omega))]; exact a1
  · have er : rd2 g (e + 4) = rd2 f (e + 4) := rd2_eq (fun o ho => by rw [Nat.add_assoc]; exact h (4 + o) (by omega))
    rw [er]; exact a2
  · rw [h 6 (by omega)]; exact a3
  · rw [h 7 (by omega)]; exact a4
  · rw [Nat.add_assoc, h (8 + k) (by omega), ← Nat.add_assoc]; exact a5 k hk
  · rw [h o h2]; exact a6 o h1 h2
set_option maxRecDepth 4096 in
theorem mk_fin {nb : Nat} {V C W : VV} (G : Good nb V) {h e i n t ln : Nat} {w : Nat → Nat} (hk : vkd V h = 2) (hi1 : 12 ≤ i) (hi2 : i ≤ vQ V * vG V) (hi0 : vkd V i = 0) (hn : nmOK w n) (hnm : ∀ a ∈ itm (vdat V) (fl V h), ¬ nmEq (vdat V) a w n) (ht : t = 1 ∨ t = 2) (T : Stg nb V C h e i n t w ln)
    (A : Stc nb W) (CI : CntI W) (CD : CntD W) (e1 : W.1 = C.1) (ek : ∀ j, vkd W j = if j = i then t else vkd V j) (el : ∀ j, vlk W j = if j = i then t else if j = h then vlk V h + (t - 1) else vlk V j) (ep : ∀ j, vpar W j = if j = i then h else vpar V j) (ee : ∀ j, vent W j = if j = i then e else vent V j) (ed : ∀ j, vdp W j = if j = i then vdp V h + 1 else vdp V j) (et : vtm W = vtm V)
    (ej : ∀ j, j ≠ i → vsz W j = vsz C j ∧ vmn W j = vmn C j ∧ vrn W j = vrn C j ∧ vtw W j = vtw C j ∧ vsg W j = vsg C j ∧ vdb W j = vdb C j ∧ ves W j = ves C j ∧ vbl W j = vbl C j)
    (edat : ∀ a, vot C (a / 1024) ≠ 0 → vdat W a = vdat C a) (hr : ∀ b, okt nb (vot W b) b) (Pi : Shp W i ∧ prt (vsz W i) = vmn W i) (DIi : t = 2 → DirI nb W i) : Good nb W ∧ e ∈ itm (vdat W) (fl W h) := by
  obtain ⟨s1, s2, s3, s4, ⟨l1, l2, l3, l4, l5, l6⟩, s6, s7, s8, s9, s10, ⟨s11, s12⟩, ⟨P, S, p1, p2, p3, p4, p5⟩, s14, s15, s16, s17⟩ := T
  have hih : h ≠ i := fun q => by rw [q] at hk; omega
  have hlC : live C h := .inr (by rw [s4, if_neg hih]; exact hk)
  obtain ⟨hl, D, D2, hL⟩ := dirF G hk
  obtain ⟨j1, j2, j3, j4, j5, j6, j7, j8⟩ := ej h hih
  have hflW : fl W h = fl C h := by unfold fl; rw [j7, j2]
  have hin : ∀ x ∈ fl C h, ∀ o, o < rd2 (vdat C) (x + 4) → vdat W (x + o) = vdat C (x + o) := fun x hx o ho => by
    obtain ⟨k, k1, k2, k3, k4, k5⟩ := fl_adr s1.2.2 hlC s11 hx
    refine edat _ ?_
    rw [show (x + o) / 1024 = x / 1024 by omega, k2.2.1]; omega
  have hm12 : ∀ x ∈ fl C h, 12 ≤ rd2 (vdat C) (x + 4) := fun x hx => by
    obtain ⟨k, k1, k2, k3, k4, k5⟩ := fl_adr s1.2.2 hlC s11 hx; exact k5
  have hsp := spc_ge n
  have heC : e ∈ fl C h := by rw [p2]; simp
  have hln := s16.2.1
  have hEB : EntB (vdat W) e i ln n t w := EntB_fr (fun o ho => hin e heC o (by omega)) s16
  have hVC : ∀ x ∈ fl V h, x ∈ fl C h := fun x hx => by
    rw [p2]
    rcases p3 with q | ⟨q, _⟩ <;> rw [q] at hx <;> simp at hx ⊢ <;> grind
  have hnot : ∀ x ∈ itm (vdat V) (fl V h), x ≠ e := fun x hx q => by
    obtain ⟨m1, m2⟩ := itm_mem hx
    subst q
    rcases p3 with q | ⟨_, q⟩
    · rw [q] at m1; simp at m1; grind
    · exact m2 q
  have hold : ∀ x ∈ fl V h, x ≠ e → (∀ o, o < 4 ∨ (6 ≤ o ∧ o < usd (vdat V) x) → vdat W (x + o) = vdat V (x + o)) ∧ usd (vdat V) x ≤ rd2 (vdat W) (x + 4) := fun x hx hne => by
    obtain ⟨q1, q2⟩ := s15 x hx hne
    have hx' := hVC x hx
    have h12 := hm12 x hx'
    refine ⟨fun o ho => by rw [hin x hx' o (by omega)]; exact q1 o ho, ?_⟩
    have er : rd2 (vdat W) (x + 4) = rd2 (vdat C) (x + 4) := rd2_eq (fun o ho => by rw [Nat.add_assoc]; exact hin x hx' (4 + o) (by omega))
    rw [er]; exact q2
  have hDS : DS nb W h := by
    refine ⟨by rw [j2]; exact s11.1, by rw [j1, j2]; exact s11.2.1, fun k hk' => ?_⟩
    rw [j2] at hk'
    rw [j7, j8]
    refine Seg_fr _ _ _ (fun x hx1 hx2 => ?_) (s11.2.2 k hk')
    have oj := s1.2.2.1 h k hlC hk'
    refine edat x ?_
    rw [show x / 1024 = vbl C h k by omega]; omega
  have e1V : W.1 = V.1 := e1.trans s2
  have hEnt : Ent nb W h e := by
    obtain ⟨a1, a2, a3, a4, a5, a6⟩ := hEB
    unfold Ent
    rw [a1, a2, a3, a4]
    have eQ : vQ W = vQ V := congrFun e1V 1
    have eG : vG W = vG V := congrFun e1V 2
    refine ⟨hi1, by rw [eQ, eG]; exact hi2, ?_, by rw [ep, if_pos rfl], by rw [ee, if_pos rfl], by rw [ek, if_pos rfl], hn.1, fun k hk' => by rw [a5 k hk']; exact hn.2.2.1 k hk', fun q => ?_, s17, a6⟩
    · unfold live; rw [ek, if_pos rfl]; exact ht
    · have b0 := a5 0 hn.1
      rw [Nat.add_zero] at b0
      rw [b0] at q
      refine hn.2.2.2 ⟨q.1, q.2.imp id (fun q2 => ⟨q2.1, ?_⟩)⟩
      have b1 := a5 1 (by omega)
      rw [← b1]; exact q2.2
  have hm0 : 1 ≤ vmn V h := D.1.1
  have hnl : ∀ a ∈ itm (vdat V) (fl V h), ¬ smN (vdat W) a e ∧ ¬ smN (vdat W) e a := fun a ha => by
    obtain ⟨m1, m2⟩ := itm_mem ha
    have ho := (hold a m1 (hnot a ha)).1
    have hu : usd (vdat V) a = spc (vdat V (a + 6) % 256) := by unfold usd; rw [if_neg m2]
    have hsa := spc_ge (vdat V (a + 6) % 256)
    have c6 : vdat W (a + 6) = vdat V (a + 6) := ho 6 (.inr (by omega))
    have c8 : ∀ k, k < vdat V (a + 6) % 256 → vdat W (a + 8 + k) = vdat V (a + 8 + k) := fun k hk' => by rw [Nat.add_assoc]; exact ho (8 + k) (.inr (by omega))
    obtain ⟨a1, a2, a3, a4, a5, a6⟩ := hEB
    constructor
    · intro ⟨q1, q2⟩
      rw [c6, a3] at q1
      refine hnm a ha ⟨q1, fun j hj => ?_⟩
      rw [c6] at q2
      rw [← c8 j (by omega), q2 j (by omega)]; exact a5 j hj
    · intro ⟨q1, q2⟩
      rw [c6, a3] at q1
      refine hnm a ha ⟨q1.symm, fun j hj => ?_⟩
      rw [a3] at q2
      rw [← c8 j (by omega), ← q2 j hj]; exact a5 j hj
  have hnlv : ¬ live V i := by unfold live; omega
  obtain ⟨R1, R2, R3⟩ := ins_Dir G hk hDS (by rw [j7, j8]; exact s12) e1V (by rw [j8]; exact s9 h 0 hm0) (by rw [ep, if_neg hih]) p1 (hflW.trans p2) p3 ⟨p4, p5⟩ (fun o ho => by
      have o0 := G.1.2.2.1 h 0 hl hm0
      obtain ⟨r, hr1, _⟩ := fl_drop D
      have hx' := hVC (1024 * vbl V h 0) (by rw [hr1]; simp)
      rw [hin _ hx' o (by have := hm12 _ hx'; omega)]; exact s14 o ho) hold hEnt hEB.1 hnlv (fun j hj => ⟨by rw [ek, if_neg hj], by rw [ep, if_neg hj], by rw [ee, if_neg hj]⟩) hnl (by
      rw [el, if_neg hih, if_pos rfl, ek, if_pos rfl]
      rcases ht with q | q <;> subst q <;> simp)
  refine ⟨mk_Good G hk hi1 hi2 hi0 (Ne.symm hih) A CI CD e1V (by rw [ek, if_pos rfl]; exact ht) (fun j hj => by rw [ek, if_neg hj]) (by rw [ep, if_pos rfl]) (fun j hj => by rw [ep, if_neg hj]) (by rw [ee, if_pos rfl]) (fun j hj => by rw [ee, if_neg hj]) (by rw [ed, if_pos rfl]; omega) (fun j hj => by rw [ed, if_neg hj]) (fun j hj hj2 => by rw [el, if_neg hj, if_neg hj2]) (fun q => by rw [ek, if_pos rfl] at q; rw [el, if_pos rfl]; exact q) (fun x => by rw [et]) (fun j hj hj2 => ?_) Pi ?_ hr (fun j k hj hk' => ?_) (fun j k o lj hj hk' ho => ?_) R1 R2 R3 hEB.1 (fun q => by rw [ek, if_pos rfl] at q; exact DIi q), ?_⟩
  · obtain ⟨i1, i2, i3, i4, i5, i6, i7, i8⟩ := ej j hj
    obtain ⟨k1, k2, k3, k4, k5, k6, k7⟩ := s6 j hj2
    exact ⟨i1.trans k1, i2.trans k2, i3.trans k3, i4.trans k4, i5.trans k5, i6.trans k6, i7.trans k7⟩
  · refine ⟨?_, ?_⟩
    · unfold Shp at *; rw [j2, j3, j4, j5, j6]; exact s7
    · rw [j1, j2, s11.2.1]; unfold prt; omega
  · rw [(ej j hj).2.2.2.2.2.2.2]; exact s9 j k hk'
  · have oj := G.1.2.2.1 j k lj hk'
    have hji : j ≠ i := fun q => hnlv (q ▸ lj)
    have ljC : live C j := by unfold live; rw [s4, if_neg hji]; exact lj
    have oc := s1.2.2.1 j k ljC (by rw [(s6 j hj).2.1]; exact hk')
    rw [s9 j k hk'] at oc
    rw [edat _ (by rw [show (1024 * vbl V j k + o) / 1024 = vbl V j k by omega]; omega)]
    exact s10 j k o lj hj hk' ho
  · obtain ⟨A', B', _, q⟩ := R2
    rw [q]; simp
