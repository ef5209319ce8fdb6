set_option maxRecDepth 4096 in
theorem ins_Dir {nb : Nat} {V W : VV} (G : Good nb V) {h e i : Nat} {P S : List Nat} (hk : vkd V h = 2) (DSW : DS nb W h) (hr : ∃ r, ves W h 0 = (1024 * vbl W h 0) :: (1024 * vbl W h 0 + 12) :: r) (e1 : W.1 = V.1) (e0 : vbl W h 0 = vbl V h 0) (epar : vpar W h = vpar V h)
    (hP : 2 ≤ P.length) (hW : fl W h = P ++ e :: S) (hV : fl V h = P ++ S ∨ (fl V h = P ++ e :: S ∧ rd4 (vdat V) e = 0)) (hne : e ∉ P ∧ e ∉ S)
    (hd0 : ∀ o, o < 12 → vdat W (1024 * vbl V h 0 + o) = vdat V (1024 * vbl V h 0 + o)) (hold : ∀ x ∈ fl V h, x ≠ e → (∀ o, o < 4 ∨ (6 ≤ o ∧ o < usd (vdat V) x) → vdat W (x + o) = vdat V (x + o)) ∧ usd (vdat V) x ≤ rd2 (vdat W) (x + 4))
    (hnew : Ent nb W h e) (hei : rd4 (vdat W) e = i) (hi0 : ¬ live V i) (ek : ∀ j, j ≠ i → vkd W j = vkd V j ∧ vpar W j = vpar V j ∧ vent W j = vent V j) (hnm : ∀ a ∈ itm (vdat V) (fl V h), ¬ smN (vdat W) a e ∧ ¬ smN (vdat W) e a)
    (elk : vlk W h = vlk V h + (if vkd W i = 2 then 1 else 0)) : DirI nb W h ∧ (∃ A B, itm (vdat V) (fl V h) = A ++ B ∧ itm (vdat W) (fl W h) = A ++ e :: B) ∧ ∀ x ∈ itm (vdat V) (fl V h), rd4 (vdat W) x = rd4 (vdat V) x := by
  obtain ⟨hl, D, D2, hL⟩ := dirF G hk
  obtain ⟨H, ⟨r0, hr0⟩, dt, hE, hN, hLk⟩ := D
  have D : DirI nb V h := ⟨H, ⟨r0, hr0⟩, dt, hE, hN, hLk⟩
  obtain ⟨r, hr1, hr2⟩ := fl_drop D
  have r4 : ∀ x ∈ fl V h, x ≠ e → rd4 (vdat W) x = rd4 (vdat V) x := fun x hx hxe => rd4_eq (fun o ho => (hold x hx hxe).1 o (.inl ho))
  have hP1 : ∀ x ∈ P, x ∈ fl V h := fun x hx => by
    rcases hV with q | ⟨q, _⟩ <;> rw [q] <;> exact List.mem_append_left _ hx
  have hS1 : ∀ x ∈ S, x ∈ fl V h := fun x hx => by
    rcases hV with q | ⟨q, _⟩ <;> rw [q]
    · exact List.mem_append_right _ hx
    · exact List.mem_append_right _ (List.mem_cons_of_mem _ hx)
  have neP : ∀ x ∈ P, x ≠ e := fun x hx q => hne.1 (by rw [← q]; exact hx)
  have neS : ∀ x ∈ S, x ≠ e := fun x hx q => hne.2 (by rw [← q]; exact hx)
  have nzP : (P.drop 2).filter (nz (vdat W)) = (P.drop 2).filter (nz (vdat V)) := List.filter_congr (fun x hx => by
    have := List.mem_of_mem_drop hx
    unfold nz; rw [r4 x (hP1 x this) (neP x this)])
  have nzS : S.filter (nz (vdat W)) = S.filter (nz (vdat V)) := List.filter_congr (fun x hx => by
    unfold nz; rw [r4 x (hS1 x hx) (neS x hx)])
  have nze : nz (vdat W) e = true := nz_t.mpr (by have := hnew.1; omega)
  have iW : itm (vdat W) (fl W h) = (P.drop 2).filter (nz (vdat V)) ++ e :: S.filter (nz (vdat V)) := by
    unfold itm; rw [hW, List.drop_append_of_le_length hP, List.filter_append, nzP, List.filter_cons_of_pos nze, nzS]
  have iV : itm (vdat V) (fl V h) = (P.drop 2).filter (nz (vdat V)) ++ S.filter (nz (vdat V)) := by
    unfold itm
    rcases hV with q | ⟨q, q0⟩
    · rw [q, List.drop_append_of_le_length hP, List.filter_append]
    · rw [q, List.drop_append_of_le_length hP, List.filter_append, List.filter_cons_of_neg (nz_f.mpr q0)]
  have memW : ∀ x, x ∈ itm (vdat W) (fl W h) → x = e ∨ (x ∈ itm (vdat V) (fl V h) ∧ x ≠ e) := fun x hx => by
    rw [iW] at hx
    rcases List.mem_append.mp hx with q | q
    · right; refine ⟨by rw [iV]; exact List.mem_append_left _ q, neP x (List.mem_of_mem_drop (List.mem_filter.mp q).1)⟩
    · rcases List.mem_cons.mp q with q | q
      · left; exact q
      · right; refine ⟨by rw [iV]; exact List.mem_append_right _ q, neS x (List.mem_filter.mp q).1⟩
  have oldE : ∀ x ∈ itm (vdat V) (fl V h), x ≠ e := fun x hx => by
    rw [iV] at hx
    rcases List.mem_append.mp hx with q | q
    · exact neP x (List.mem_of_mem_drop (List.mem_filter.mp q).1)
    · exact neS x (List.mem_filter.mp q).1
  have notI : ∀ x ∈ itm (vdat V) (fl V h), rd4 (vdat V) x ≠ i := fun x hx q => hi0 (by rw [← q]; exact (dirE D hx).2.2.1)
  have usE : ∀ x ∈ itm (vdat V) (fl V h), usd (vdat V) x = spc (vdat V (x + 6) % 256) := fun x hx => by unfold usd; rw [if_neg (itm_mem hx).2]
  have m0 : 1024 * vbl V h 0 ∈ fl V h := by rw [hr1]; simp
  have m1 : 1024 * vbl V h 0 + 12 ∈ fl V h := by rw [hr1]; simp
  have nd := fl_nd G.1.2.2 hl H
  have hd1ne : 1024 * vbl V h 0 + 12 ≠ e := fun q => by
    -- e stands behind the first two
    have hP2 : ∃ p0 p1 P', P = p0 :: p1 :: P' := by
      cases P with
      | nil => simp at hP
      | cons p0 P => cases P with
        | nil => simp at hP
        | cons p1 P' => exact ⟨p0, p1, P', rfl⟩
    obtain ⟨p0, p1, P', hPe⟩ := hP2
    have : p1 = 1024 * vbl V h 0 + 12 := by
      rcases hV with v | ⟨v, _⟩ <;> rw [hr1, hPe] at v <;> injection v with v1 v2 <;> injection v2 with v3 v4 <;> exact v3.symm
    exact hne.1 (by rw [hPe, ← q, ← this]; simp)
  refine ⟨⟨DSW, hr, ?_, fun x hx => ?_, fun a b ha hb hab => ?_, ?_⟩, ⟨_, _, iV, iW⟩, fun x hx => r4 x (itm_mem hx).1 (oldE x hx)⟩
  · refine Dots_gen e0 epar (fun o ho => ?_) dt
    by_cases c : o < 12
    · exact hd0 o c
    · obtain ⟨o', rfl⟩ : ∃ o', o = 12 + o' := ⟨o - 12, by omega⟩
      rw [← Nat.add_assoc]
      refine (hold _ m1 hd1ne).1 o' ?_
      by_cases z : rd4 (vdat V) (1024 * vbl V h 0 + 12) = 0
      · exfalso
        rw [dt.2.1] at z
        by_cases h2 : h = 2
        · rw [h2, G.2.2.2.2.2.2.2.2.1] at z; omega
        · have := (G.2.2.2.2.2.2.2.1 h hl h2).1
          rw [z, G.2.2.2.2.2.1.2.1] at this; omega
      · unfold usd; rw [if_neg z, dt.2.2.2.2.1, show spc 2 = 12 from rfl]; omega
  · rw [hW, List.drop_append_of_le_length hP] at hx
    by_cases c : x = e
    · right; rw [c]; exact hnew
    · have hxV : x ∈ (fl V h).drop 2 := by
        rcases List.mem_append.mp hx with q | q
        · rcases hV with v | ⟨v, _⟩ <;> rw [v, List.drop_append_of_le_length hP] <;> exact List.mem_append_left _ q
        · rcases List.mem_cons.mp q with q | q
          · exact absurd q c
          · rcases hV with v | ⟨v, _⟩ <;> rw [v, List.drop_append_of_le_length hP]
            · exact List.mem_append_right _ q
            · exact List.mem_append_right _ (List.mem_cons_of_mem _ q)
      have hxf := List.mem_of_mem_drop hxV
      rcases hE x hxV with z | z
      · left; rw [r4 x hxf c]; exact z
      · right
        have hxi : x ∈ itm (vdat V) (fl V h) := List.mem_filter.mpr ⟨hxV, nz_t.mpr (by have := z.1; omega)⟩
        obtain ⟨u1, u2, u3⟩ := ek _ (notI x hxi)
        have ho := hold x hxf c
        rw [usE x hxi] at ho
        exact Ent_gen e1 u1 u2 u3 ho.1 ho.2 z
  · rcases memW a ha with rfl | ⟨ha1, ha2⟩
    · rcases memW b hb with rfl | ⟨hb1, hb2⟩
      · exact absurd rfl hab
      · exact (hnm b hb1).2
    · rcases memW b hb with rfl | ⟨hb1, hb2⟩
      · exact (hnm a ha1).1
      · intro hs
        have oa := hold a (itm_mem ha1).1 ha2; have ob := hold b (itm_mem hb1).1 hb2
        rw [usE a ha1] at oa; rw [usE b hb1] at ob
        exact hN a b ha1 hb1 hab (smN_gen (fun o ho => oa.1 o (.inr ho)) (fun o ho => ob.1 o (.inr ho)) hs)
  · have cg : ∀ L : List Nat, (∀ x ∈ L, x ∈ itm (vdat V) (fl V h)) → L.filter (isD W) = L.filter (isD V) := fun L hL' => List.filter_congr (fun x hx => by
      have hxi := hL' x hx
      unfold isD; rw [r4 x (itm_mem hxi).1 (oldE x hxi), (ek _ (notI x hxi)).1])
    rw [iW, List.filter_append, cg _ (fun x hx => by rw [iV]; exact List.mem_append_left _ hx)]
    rw [iV, List.filter_append] at hLk
    have isE : (isD W e = true) ↔ vkd W i = 2 := by unfold isD; rw [hei]; simp
    by_cases c : vkd W i = 2
    · rw [if_pos c] at elk
      rw [List.filter_cons_of_pos (isE.mpr c), cg _ (fun x hx => by rw [iV]; exact List.mem_append_right _ hx), elk, hLk]
      simp only [List.length_append, List.length_cons]; omega
    · rw [if_neg c] at elk
      rw [List.filter_cons_of_neg (fun q => c (isE.mp q)), cg _ (fun x hx => by rw [iV]; exact List.mem_append_right _ hx), elk, hLk]
      rfl
-- the volume after an item has come
set_option maxRecDepth 4096 in
theorem mk_Good {nb : Nat} {V W : VV} (G : Good nb V) {h e i : Nat} (hk : vkd V h = 2) (hi1 : 12 ≤ i) (hi2 : i ≤ vQ V * vG V) (hi0 : vkd V i = 0) (hih : i ≠ h)
    (A : Stc nb W) (CI : CntI W) (CD : CntD W) (e1 : W.1 = V.1) (eki : vkd W i = 1 ∨ vkd W i = 2) (ekn : ∀ j, j ≠ i → vkd W j = vkd V j) (epi : vpar W i = h) (epn : ∀ j, j ≠ i → vpar W j = vpar V j) (eei : vent W i = e) (een : ∀ j, j ≠ i → vent W j = vent V j) (edi : vdp V h < vdp W i) (edn : ∀ j, j ≠ i → vdp W j = vdp V j)
    (eln : ∀ j, j ≠ i → j ≠ h → vlk W j = vlk V j) (eli : vkd W i = 1 → vlk W i = 1) (etm : ∀ x, vtm W x = vtm V x) (ezn : ∀ j, j ≠ i → j ≠ h → vsz W j = vsz V j ∧ vmn W j = vmn V j ∧ vrn W j = vrn V j ∧ vtw W j = vtw V j ∧ vsg W j = vsg V j ∧ vdb W j = vdb V j ∧ ves W j = ves V j)
    (Pi : Shp W i ∧ prt (vsz W i) = vmn W i) (Ph : Shp W h ∧ prt (vsz W h) = vmn W h) (hr : ∀ b, okt nb (vot W b) b) (ebn : ∀ j k, j ≠ i → k < vmn V j → vbl W j k = vbl V j k) (edat : ∀ j k o, live V j → j ≠ h → k < vmn V j → o < 1024 → vdat W (1024 * vbl V j k + o) = vdat V (1024 * vbl V j k + o))
    (DIh : DirI nb W h) (hit : ∃ A B, itm (vdat V) (fl V h) = A ++ B ∧ itm (vdat W) (fl W h) = A ++ e :: B) (hr4 : ∀ x ∈ itm (vdat V) (fl V h), rd4 (vdat W) x = rd4 (vdat V) x) (hei : rd4 (vdat W) e = i) (DIi : vkd W i = 2 → DirI nb W i) : Good nb W := by
  have hgl := G_lt G.1.1
  obtain ⟨g1, g2, g3, g4, g5, g6, g7, g8, g9, g10, g11, g12, g13, g14⟩ := G
  have O := g1.2.2
  have eQ : vQ W = vQ V := congrFun e1 1
  have eG : vG W = vG V := congrFun e1 2
  have eI : vI W = vI V := congrFun e1 3
  have eM : vmd W = vmd V := congrFun e1 4
  have li0 : ¬ live V i := by unfold live; omega
  have hlv : ∀ j, j ≠ i → (live W j ↔ live V j) := fun j hj => by unfold live; rw [ekn j hj]
  have hsam : ∀ j, vkd V j = 2 → j ≠ h → SamD V W j := fun j hj hjh => by
    have hji : j ≠ i := fun q => by rw [q] at hj; omega
    obtain ⟨x1, x2, x3, x4, x5, x6, x7⟩ := ezn j hji hjh
    exact ⟨x2, x1, fun k hk' => ebn j k hji hk', x7, fun k hk' o ho => edat j k o (.inr hj) hjh hk' ho⟩
  refine ⟨A, CI, CD, fun j lj => ?_, fun j lj => ?_, ?_, hr, fun j lj hne => ?_, by rw [epn 2 (by omega)]; exact g9, fun j hj => ?_, fun j hj hne => ?_, fun x => by rw [etm]; exact g12 x, by rw [eI, eM]; exact g13, fun j hj => ?_⟩
  · by_cases c : j = i
    · rw [c]; exact Pi
    · by_cases c2 : j = h
      · rw [c2]; exact Ph
      · obtain ⟨x1, x2, x3, x4, x5, x6, x7⟩ := ezn j c c2
        have := g4 j ((hlv j c).mp lj)
        unfold Shp; rw [x1, x2, x3, x4, x5, x6]; exact this
  · have hji : j ≠ i := fun q => lj (by rw [q]; exact eki)
    have lj' : ¬ live V j := fun q => lj ((hlv j hji).mpr q)
    have hjh : j ≠ h := fun q => lj' (by rw [q]; exact .inr hk)
    obtain ⟨x1, x2, x3, x4, x5, x6, x7⟩ := ezn j hji hjh
    rw [x1, x2, x3, x4, x5, x6, eln j hji hjh, etm, etm, etm]; exact g5 j lj'
  · obtain ⟨y1, y2, y3, y4, y5, y6⟩ := g6
    refine ⟨fun j => ?_, ?_, fun j hj => ?_, fun j h1 h2 h3 => ?_, ?_, fun j hj => ?_⟩
    · by_cases c : j = i
      · rw [c]; omega
      · rw [ekn j c]; exact y1 j
    · rw [ekn 0 (by omega)]; exact y2
    · rw [eQ, eG] at hj; rw [ekn j (by omega)]; exact y3 j hj
    · rw [ekn j (by omega)]; exact y4 j h1 h2 h3
    · rw [ekn 2 (by omega)]; exact y5
    · by_cases c : j = i
      · rw [c]; omega
      · rw [ekn j c]; exact y6 j hj
  · obtain ⟨Al, Bl, hA, hB⟩ := hit
    by_cases c : j = i
    · rw [c, epi, eei, ekn h (fun q => hih q.symm)]
      exact ⟨hk, by rw [hB]; simp, hei⟩
    · have lj' := (hlv j c).mp lj
      obtain ⟨p1, p2, p3⟩ := g8 j lj' hne
      have hpi : vpar V j ≠ i := fun q => by rw [q, hi0] at p1; omega
      rw [epn j c, een j c, ekn _ hpi]
      by_cases c2 : vpar V j = h
      · rw [c2] at p2 ⊢
        refine ⟨hk, ?_, by rw [hr4 _ p2]; exact p3⟩
        rw [hA] at p2; rw [hB]
        rcases List.mem_append.mp p2 with q | q
        · exact List.mem_append_left _ q
        · exact List.mem_append_right _ (List.mem_cons_of_mem _ q)
      · have hs := hsam _ p1 c2
        have DS := (g14 _ p1).1
        rw [sam_itm O (.inr p1) DS hs, sam_4 O (.inr p1) DS hs (itm_mem p2).1]
        exact ⟨p1, p2, p3⟩
  · by_cases c : j = i
    · rw [c] at hj ⊢; exact eli hj
    · rw [ekn j c] at hj
      rw [eln j c (fun q => by rw [q] at hj; omega)]; exact g10 j hj
  · by_cases c : j = i
    · rw [c, epi, edn h (fun q => hih q.symm)]; exact edi
    · rw [ekn j c] at hj
      have hp := g8 j (.inr hj) hne
      have hpi : vpar V j ≠ i := fun q => by have := hp.1; rw [q, hi0] at this; omega
      rw [epn j c, edn j c, edn _ hpi]; exact g11 j hj hne
  · by_cases c : j = i
    · rw [c] at hj ⊢; exact DIi hj
    · rw [ekn j c] at hj
      by_cases c2 : j = h
      · rw [c2]; exact DIh
      · refine DirI_fr O (.inr hj) (hsam j hj c2) e1 (eln j c c2) (epn j c) (fun x hx => ?_) (g14 j hj)
        have Ex := dirE (g14 j hj) hx
        have hne2 : rd4 (vdat V) x ≠ i := fun q => li0 (by rw [← q]; exact Ex.2.2.1)
        rw [ekn _ hne2, epn _ hne2, een _ hne2]; exact ⟨rfl, rfl, rfl⟩
