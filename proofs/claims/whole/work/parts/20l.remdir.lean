set_option maxRecDepth 4096 in
theorem Seg_len {f g : Nat → Nat} : ∀ (l : List Nat) (s t : Nat), (∀ e ∈ l, rd2 g (e + 4) = rd2 f (e + 4)) → Seg f l s t → Seg g l s t := by
  intro l
  induction l with
  | nil => intro s t _ h; exact h
  | cons x l ih =>
    intro s t hl h
    obtain ⟨h1, h2, h3, h4, h5⟩ := h
    have e := hl x (List.mem_cons_self ..)
    rw [h1] at e
    refine ⟨h1, by rw [e]; exact h2, by rw [e]; exact h3, by rw [e]; exact h4, ?_⟩
    rw [e]; exact ih _ _ (fun y hy => hl y (List.mem_cons_of_mem _ hy)) h5
set_option maxRecDepth 4096 in
theorem nd_split {x : Nat} : ∀ (A C : List Nat) {B D : List Nat}, A ++ x :: B = C ++ x :: D → (A ++ x :: B).Nodup → A = C ∧ B = D := by
  intro A
  induction A with
  | nil =>
    intro C B D h nd
    cases C with
    | nil => injection h with h1 h2; exact ⟨rfl, h2⟩
    | cons c C =>
      injection h with h1 h2
      have : x ∈ B := by rw [h2]; simp
      exact absurd this (List.nodup_cons.mp nd).1
  | cons a A ih =>
    intro C B D h nd
    cases C with
    | nil =>
      injection h with h1 h2
      have hx : x ∈ A ++ x :: B := by simp
      rw [h1] at nd
      exact absurd hx (List.nodup_cons.mp nd).1
    | cons c C =>
      injection h with h1 h2
      obtain ⟨e1, e2⟩ := ih C h2 (List.nodup_cons.mp nd).2
      exact ⟨by rw [h1, e1], e2⟩
set_option maxRecDepth 4096 in
theorem filt_rm {l : List Nat} {a : Nat} (nd : l.Nodup) (p : Nat → Bool) (ha : a ∈ l) : (l.filter p).length = ((l.filter (fun e => e != a)).filter p).length + (if p a = true then 1 else 0) := by
  induction l with
  | nil => cases ha
  | cons x l ih =>
    obtain ⟨n1, n2⟩ := List.nodup_cons.mp nd
    by_cases c : x = a
    · subst c
      have e : l.filter (fun e => e != x) = l := List.filter_eq_self.mpr (fun y hy => by simp; intro e; rw [e] at hy; exact n1 hy)
      have e2 : (x :: l).filter (fun e => e != x) = l := by rw [List.filter_cons_of_neg (p := fun e => e != x) (by simp)]; exact e
      rw [e2]
      by_cases hp : p x = true
      · rw [List.filter_cons_of_pos hp, if_pos hp, List.length_cons]
      · rw [List.filter_cons_of_neg hp, if_neg hp]; rfl
    · have ha' : a ∈ l := by
        rcases List.mem_cons.mp ha with e | e
        · exact absurd e.symm c
        · exact e
      have := ih n2 ha'
      have e2 : (x :: l).filter (fun e => e != a) = x :: l.filter (fun e => e != a) := List.filter_cons_of_pos (p := fun e => e != a) (by simp [c])
      rw [e2]
      by_cases hp : p x = true
      · rw [List.filter_cons_of_pos hp, List.filter_cons_of_pos hp, List.length_cons, List.length_cons]; omega
      · rw [List.filter_cons_of_neg hp, List.filter_cons_of_neg hp]; exact this
def Gcut (a : Nat) (z : Option Nat) (f : Nat → Nat) : Nat → Nat := match z with
  | none => wrN f a 4 0
  | some z => wrN f (z + 4) 2 (rd2 f (z + 4) + rd2 f (a + 4))
def NewL (L L' : List Nat) (a : Nat) (z : Option Nat) : Prop := match z with
  | none => L' = L
  | some z => ∃ p s, L = p ++ z :: a :: s ∧ L' = p ++ z :: s
set_option maxRecDepth 4096 in
theorem rem_blk {nb : Nat} {V : VV} (O : OwnC nb V) {h : Nat} (hl : live V h) (D : DirI nb V h) {a : Nat} (ha : a ∈ fl V h) : ∃ kb, kb < vmn V h ∧ a ∈ ves V h kb ∧ (a % 1024 = 0 ∨ ∃ l1 z l2, ves V h kb = l1 ++ z :: a :: l2) := by
  obtain ⟨kb, k1, k2, k3⟩ := (fl_mem (vmn V h) 0).mp ha
  refine ⟨kb, by omega, k3, ?_⟩
  obtain ⟨m1, m2, hm⟩ := List.append_of_mem k3
  rcases List.eq_nil_or_concat m1 with c | ⟨l1, z, c⟩
  · left
    have hS := D.1.2.2 kb (by omega)
    rw [hm, c] at hS
    have := hS.1
    omega
  · right
    rw [List.concat_eq_append] at c
    exact ⟨l1, z, m2, by rw [hm, c]; simp⟩
set_option maxRecDepth 4096 in
theorem rem_Dir {nb : Nat} {V W : VV} (G : Good nb V) {h a kb : Nat} {z : Option Nat} (hk : vkd V h = 2) (ha : a ∈ itm (vdat V) (fl V h)) (hkb : kb < vmn V h) (hz : (z = none ∧ a % 1024 = 0) ∨ ∃ y, z = some y ∧ a % 1024 ≠ 0)
    (hin : a ∈ ves V h kb) (hv : NewL (ves V h kb) (ves W h kb) a z) (hvo : ∀ k, k ≠ kb → ves W h k = ves V h k) (e1 : W.1 = V.1) (em : vmn W h = vmn V h) (es : vsz W h = vsz V h) (eb : ∀ k, k < vmn V h → vbl W h k = vbl V h k) (epar : vpar W h = vpar V h)
    (ek : ∀ j, j ≠ rd4 (vdat V) a → vkd W j = vkd V j ∧ vpar W j = vpar V j ∧ vent W j = vent V j)
    (ed : ∀ k o, k < vmn V h → o < 1024 → vdat W (1024 * vbl V h k + o) = Gcut a z (vdat V) (1024 * vbl V h k + o)) (elk : vlk W h + (if vkd V (rd4 (vdat V) a) = 2 then 1 else 0) = vlk V h) :
    DirI nb W h ∧ itm (vdat W) (fl W h) = (itm (vdat V) (fl V h)).filter (fun e => e != a) ∧ ∀ e ∈ itm (vdat W) (fl W h), rd4 (vdat W) e = rd4 (vdat V) e := by
  obtain ⟨hl, D, D2, hL⟩ := dirF G hk
  have O := G.1.2.2
  obtain ⟨H, ⟨r0, hr0⟩, dt, hE, hN, hLk⟩ := D
  have D : DirI nb V h := ⟨H, ⟨r0, hr0⟩, dt, hE, hN, hLk⟩
  obtain ⟨r, hr1, hr2⟩ := fl_drop D
  have nd := fl_nd O hl H
  have haf := (itm_mem ha).1
  have ha4 := (itm_mem ha).2
  have Ea := dirE D ha
  have had : a ∈ (fl V h).drop 2 := (List.mem_filter.mp ha).1
  -- the entry that is written
  obtain ⟨y, c, n, hy, hyc, hG⟩ : ∃ y c n, y ∈ fl V h ∧ (y ≤ c ∧ c + n ≤ y + 12 ∧ (z = none → y = a ∧ c = a ∧ n = 4) ∧ (z = some y → c = y + 4 ∧ n = 2) ∧ (z = none ∨ z = some y)) ∧ ∀ x, ¬ (c ≤ x ∧ x < c + n) → Gcut a z (vdat V) x = vdat V x := by
    cases z with
    | none => exact ⟨a, a, 4, haf, ⟨by omega, by omega, fun _ => ⟨rfl, rfl, rfl⟩, fun e => (by cases e), .inl rfl⟩, fun x hx => by show wrN (vdat V) a 4 0 x = _; unfold wrN; rw [if_neg hx]⟩
    | some y =>
      obtain ⟨p, s, q1, q2⟩ := hv
      refine ⟨y, y + 4, 2, (fl_mem (vmn V h) 0).mpr ⟨kb, by omega, by omega, by rw [q1]; simp⟩, ⟨by omega, by omega, fun e => (by cases e), fun _ => ⟨rfl, rfl⟩, .inr rfl⟩, fun x hx => ?_⟩
      show wrN (vdat V) (y + 4) 2 _ x = _
      unfold wrN; rw [if_neg hx]
  have hlen : ∀ e ∈ fl V h, 12 ≤ rd2 (vdat V) (e + 4) ∧ e % 1024 + rd2 (vdat V) (e + 4) ≤ 1024 := fun e he => by
    obtain ⟨k, _, _, _, k4, k5⟩ := fl_adr O hl H he; exact ⟨k5, k4⟩
  have hat : ∀ e ∈ fl V h, ∀ o, e % 1024 + o < 1024 → vdat W (e + o) = Gcut a z (vdat V) (e + o) := fun e he o ho => by
    obtain ⟨k, k1, k2, k3, k4, k5⟩ := fl_adr O hl H he
    have := ed k (e % 1024 + o) k1 ho
    rw [show 1024 * vbl V h k + (e % 1024 + o) = e + o by omega] at this; exact this
  have out : ∀ e ∈ fl V h, e ≠ y → ∀ o, o < rd2 (vdat V) (e + 4) → vdat W (e + o) = vdat V (e + o) := fun e he hne o ho => by
    have h1 := hlen e he; have h2 := hlen y hy
    rw [hat e he o (by omega), hG]
    rcases Nat.lt_or_gt_of_ne hne with q | q
    · have := fl_sep O hl H he hy q; omega
    · have := fl_sep O hl H hy he q; omega
  have iny : ∀ o, o < rd2 (vdat V) (y + 4) → ¬ (c ≤ y + o ∧ y + o < c + n) → vdat W (y + o) = vdat V (y + o) := fun o ho hno => by
    have h2 := hlen y hy
    rw [hat y hy o (by omega), hG _ hno]
  -- new entries are old ones
  have hsub : ∀ e, e ∈ fl W h → e ∈ fl V h ∧ (z ≠ none → e ≠ a) := by
    intro e he
    have he' := (fl_mem (vmn W h) 0).mp he
    obtain ⟨k, k1, k2, k3⟩ := he'
    by_cases ck : k = kb
    · subst ck
      cases z with
      | none => have hv : ves W h k = ves V h k := hv
                rw [hv] at k3; exact ⟨(fl_mem _ 0).mpr ⟨k, by omega, by omega, k3⟩, fun e => absurd rfl e⟩
      | some w =>
        obtain ⟨p, s, q1, q2⟩ := hv
        have hm : e ∈ ves V h k := by
          rw [q2] at k3; rw [q1]
          rcases List.mem_append.mp k3 with x | x
          · exact List.mem_append_left _ x
          · rcases List.mem_cons.mp x with x | x
            · rw [x]; simp
            · exact List.mem_append_right _ (List.mem_cons_of_mem _ (List.mem_cons_of_mem _ x))
        refine ⟨(fl_mem _ 0).mpr ⟨k, by omega, by omega, hm⟩, fun _ hea => ?_⟩
        have pw := Seg_pw _ _ _ (H.2.2 k (by omega))
        rw [q1] at pw
        have nd2 : (p ++ w :: a :: s).Nodup := List.nodup_iff_pairwise_ne.mpr (pw.imp (fun h => by omega))
        rw [q2, hea] at k3
        rw [List.nodup_append] at nd2
        obtain ⟨n1, n2, n3⟩ := nd2
        obtain ⟨n4, n5⟩ := List.nodup_cons.mp n2
        obtain ⟨n6, _⟩ := List.nodup_cons.mp n5
        rcases List.mem_append.mp k3 with x | x
        · exact n3 a x a (by simp) rfl
        · rcases List.mem_cons.mp x with x | x
          · rw [x] at n4; simp at n4
          · exact n6 x
    · rw [hvo k ck] at k3
      refine ⟨(fl_mem _ 0).mpr ⟨k, by omega, by omega, k3⟩, fun _ hea => ?_⟩
      rw [hea] at k3
      have x1 := (DS_Adr O hl H (k := k) (by omega) k3).2.1
      have x2 := (DS_Adr O hl H (k := kb) hkb hin).2.1
      have o1 := O.1 h k hl (by omega); have o2 := O.1 h kb hl hkb
      rw [x1] at x2
      have e1 := o1.2.2.2.2; have e2 := o2.2.2.2.2; rw [x2, e2] at e1; exact ck e1.symm
  -- lengths
  have rdl : ∀ e ∈ fl V h, (z = some e → False) → rd2 (vdat W) (e + 4) = rd2 (vdat V) (e + 4) := fun e he hne => by
    have h1 := hlen e he
    refine rd2_eq (fun o ho => ?_)
    rw [Nat.add_assoc]
    by_cases ey : e = y
    · rcases hyc.2.2.2.2 with q | q
      · have := hyc.2.2.1 q
        rw [ey]; exact iny (4 + o) (by rw [ey] at h1; omega) (by omega)
      · exact (hne (by rw [ey]; exact q)).elim
    · exact out e he ey (4 + o) (by omega)
  have rdz : ∀ w, z = some w → rd2 (vdat W) (w + 4) = rd2 (vdat V) (w + 4) + rd2 (vdat V) (a + 4) ∧ rd2 (vdat V) (w + 4) + rd2 (vdat V) (a + 4) ≤ 1024 ∧ w + rd2 (vdat V) (w + 4) = a := fun w hw => by
    subst hw
    obtain ⟨p, s, q1, q2⟩ := hv
    have hS := H.2.2 kb hkb
    rw [q1] at hS
    obtain ⟨m, s1, s2⟩ := (Seg_app _ _ _ _).mp hS
    obtain ⟨s3, s4, s5, s6, s7⟩ := s2
    obtain ⟨s8, s9, s10, s11, s12⟩ := s7
    have hm := Seg_le _ _ _ s1
    have hw : w ∈ fl V h := (fl_mem _ 0).mpr ⟨kb, by omega, by omega, by rw [q1]; simp⟩
    have hwl := hlen w hw
    subst s3
    refine ⟨?_, by rw [← s8] at s11; omega, s8.symm⟩
    have hbd : rd2 (vdat V) (w + 4) + rd2 (vdat V) (a + 4) ≤ 1024 := by rw [← s8] at s11; omega
    refine rd2_of (by omega) (fun o ho => ?_)
    rw [Nat.add_assoc, hat w hw (4 + o) (by omega)]
    show wrN (vdat V) (w + 4) 2 _ (w + (4 + o)) = _
    unfold wrN; rw [if_pos (by omega), show w + (4 + o) - (w + 4) = o by omega]
  -- the blocks
  have DSW : DS nb W h := by
    refine ⟨by rw [em]; exact H.1, by rw [em, es]; exact H.2.1, fun k hk' => ?_⟩
    rw [em] at hk'
    rw [eb k hk']
    have hS := H.2.2 k hk'
    by_cases ck : k = kb
    · subst ck
      cases z with
      | none =>
        have hv : ves W h k = ves V h k := hv
        rw [hv]
        exact Seg_len _ _ _ (fun e he => rdl e ((fl_mem _ 0).mpr ⟨k, by omega, by omega, he⟩) (fun q => by cases q)) hS
      | some w =>
        obtain ⟨t1, t2, t3⟩ := rdz w rfl
        obtain ⟨p, s, q1, q2⟩ := hv
        rw [q1] at hS
        rw [q2]
        obtain ⟨m, s1, s2⟩ := (Seg_app _ _ _ _).mp hS
        obtain ⟨s3, s4, s5, s6, s7⟩ := s2
        obtain ⟨s8, s9, s10, s11, s12⟩ := s7
        subst s3
        have memv : ∀ e, e ∈ p ++ w :: a :: s → e ∈ fl V h := fun e he => (fl_mem _ 0).mpr ⟨k, by omega, by omega, by rw [q1]; exact he⟩
        have pw := Seg_pw _ _ _ (H.2.2 k hk')
        rw [q1] at pw
        have nd2 : (p ++ w :: a :: s).Nodup := List.nodup_iff_pairwise_ne.mpr (pw.imp (fun h => by omega))
        rw [List.nodup_append] at nd2
        obtain ⟨n1, n2, n3⟩ := nd2
        obtain ⟨n4, n5⟩ := List.nodup_cons.mp n2
        refine (Seg_app _ _ _ _).mpr ⟨w, Seg_len _ _ _ (fun e he => rdl e (memv e (List.mem_append_left _ he)) (fun q => ?_)) s1, rfl, ?_⟩
        · injection q with q; exact n3 e he e (by rw [q]; simp) rfl
        · rw [t1]
          rw [← s8] at s9 s10 s11 s12
          refine ⟨by omega, by omega, by omega, ?_⟩
          rw [show w + (rd2 (vdat V) (w + 4) + rd2 (vdat V) (a + 4)) = a + rd2 (vdat V) (a + 4) by omega]
          refine Seg_len _ _ _ (fun e he => rdl e (memv e (List.mem_append_right _ (List.mem_cons_of_mem _ (List.mem_cons_of_mem _ he)))) (fun q => ?_)) s12
          injection q with q
          exact n4 (by rw [q]; exact List.mem_cons_of_mem _ he)
    · rw [hvo k ck]
      refine Seg_len _ _ _ (fun e he => rdl e ((fl_mem _ 0).mpr ⟨k, by omega, by omega, he⟩) (fun q => ?_)) hS
      subst q
      obtain ⟨p, s, q1, q2⟩ := hv
      have x1 := (DS_Adr O hl H (k := k) (by omega) he).2.1
      have x2 := (DS_Adr O hl H (k := kb) hkb (a := e) (by rw [q1]; simp)).2.1
      have o1 := O.1 h k hl (by omega); have o2 := O.1 h kb hl hkb
      rw [x1] at x2
      have e1 := o1.2.2.2.2; have e2 := o2.2.2.2.2; rw [x2, e2] at e1; exact ck e1.symm
  -- the flat list
  have hfl : NewL (fl V h) (fl W h) a z := by
    obtain ⟨p, s, f1, f2⟩ := flt_set hvo (vmn V h) 0 (by omega) (by omega)
    cases z with
    | none => have hv : ves W h kb = ves V h kb := hv
              show fl W h = fl V h
              unfold fl; rw [em, f1, f2, hv]
    | some w =>
      obtain ⟨p', s', q1, q2⟩ := hv
      refine ⟨p ++ p', s' ++ s, ?_, ?_⟩
      · show flt (ves V h) 0 (vmn V h) = _; rw [f1, q1]; simp
      · show flt (ves W h) 0 (vmn W h) = _; rw [em, f2, q2]; simp
  have hd2 : (fl W h).drop 2 = if z = none then (fl V h).drop 2 else ((fl V h).drop 2).filter (fun e => e != a) := by
    cases z with
    | none => have hfl : fl W h = fl V h := hfl
              rw [if_pos rfl, hfl]
    | some w =>
      rw [if_neg (by intro e; cases e)]
      obtain ⟨p, s, q1, q2⟩ := hfl
      have key : fl W h = (fl V h).filter (fun e => e != a) := by
        rw [q1] at nd
        rw [q1, q2]
        rw [List.nodup_append] at nd
        obtain ⟨n1, n2, n3⟩ := nd
        obtain ⟨n4, n5⟩ := List.nodup_cons.mp n2
        obtain ⟨n6, n7⟩ := List.nodup_cons.mp n5
        have ep : p.filter (fun e => e != a) = p := List.filter_eq_self.mpr (fun e he => by simp; intro q; exact n3 e he a (by simp) q)
        have ess : s.filter (fun e => e != a) = s := List.filter_eq_self.mpr (fun e he => by simp; intro q; rw [q] at he; exact n6 he)
        have hwa : w ≠ a := fun q => n4 (by rw [q]; simp)
        have e3 : (w :: a :: s).filter (fun e => e != a) = w :: s := by rw [List.filter_cons_of_pos (p := fun e => e != a) (by simp [hwa]), List.filter_cons_of_neg (p := fun e => e != a) (by simp), ess]
        rw [List.filter_append, ep, e3]
      rw [key, hr1]
      have hne : a ≠ 1024 * vbl V h 0 ∧ a ≠ 1024 * vbl V h 0 + 12 := by
        rw [hr1] at nd
        obtain ⟨n1, n2⟩ := List.nodup_cons.mp nd
        obtain ⟨n3, n4⟩ := List.nodup_cons.mp n2
        rw [hr2] at had
        exact ⟨fun e => n1 (by rw [← e]; exact List.mem_cons_of_mem _ had), fun e => n3 (by rw [← e]; exact had)⟩
      rw [List.filter_cons_of_pos (p := fun e => e != a) (by have := hne.1; simp; exact fun e => this e.symm), List.filter_cons_of_pos (p := fun e => e != a) (by have := hne.2; simp; exact fun e => this e.symm)]
      rfl
  have r4 : ∀ e ∈ fl V h, e ≠ a → rd4 (vdat W) e = rd4 (vdat V) e := fun e he hne => by
    have h1 := hlen e he
    refine rd4_eq (fun o ho => ?_)
    by_cases ey : e = y
    · rcases hyc.2.2.2.2 with q | q
      · exact absurd ((hyc.2.2.1 q).1 ▸ ey) hne
      · have := hyc.2.2.2.1 q
        rw [ey]; exact iny o (by rw [ey] at h1; omega) (by omega)
    · exact out e he ey o (by omega)
  have r4a : z = none → rd4 (vdat W) a = 0 := fun q => by
    have h1 := hlen a haf
    subst q
    refine rd4_of (by omega) (fun o ho => ?_)
    rw [hat a haf o (by omega)]
    show wrN (vdat V) a 4 0 (a + o) = _
    unfold wrN; rw [if_pos (by omega), show a + o - a = o by omega]
  have hitm : itm (vdat W) (fl W h) = (itm (vdat V) (fl V h)).filter (fun e => e != a) := by
    unfold itm
    rw [hd2]
    have hcm : (((fl V h).drop 2).filter (nz (vdat V))).filter (fun e => e != a) = ((fl V h).drop 2).filter (fun e => e != a && nz (vdat V) e) := by rw [List.filter_filter]
    rw [hcm]
    by_cases q : z = none
    · rw [if_pos q]
      refine List.filter_congr (fun e he => ?_)
      by_cases ea : e = a
      · subst ea; unfold nz; rw [r4a q]; simp
      · unfold nz; rw [r4 e (List.mem_of_mem_drop he) ea]; simp [ea]
    · rw [if_neg q, List.filter_filter]
      refine List.filter_congr (fun e he => ?_)
      by_cases ea : e = a
      · subst ea; simp
      · have t : nz (vdat W) e = nz (vdat V) e := by unfold nz; rw [r4 e (List.mem_of_mem_drop he) ea]
        rw [t, Bool.and_comm]
  have mem' : ∀ e, e ∈ itm (vdat W) (fl W h) → e ∈ itm (vdat V) (fl V h) ∧ e ≠ a := fun e he => by
    rw [hitm] at he
    obtain ⟨m1, m2⟩ := List.mem_filter.mp he
    exact ⟨m1, by simpa using m2⟩
  have bytes : ∀ e ∈ itm (vdat V) (fl V h), e ≠ a → ∀ o, o < 4 ∨ (6 ≤ o ∧ o < spc (vdat V (e + 6) % 256)) → vdat W (e + o) = vdat V (e + o) := fun e he hne o ho => by
    have Ee := dirE D he
    have hs := Ee.2.2.2.2.2.2.2.2.2.1
    have hs2 := spc_ge (vdat V (e + 6) % 256)
    have hef := (itm_mem he).1
    have h1 := hlen e hef
    by_cases ey : e = y
    · rcases hyc.2.2.2.2 with q | q
      · exact absurd ((hyc.2.2.1 q).1 ▸ ey) hne
      · have := hyc.2.2.2.1 q
        rw [ey]; refine iny o ?_ (by omega)
        rw [ey] at hs h1 ho; omega
    · exact out e hef ey o (by omega)
  have hlenW : ∀ e ∈ fl V h, e ≠ a → rd2 (vdat V) (e + 4) ≤ rd2 (vdat W) (e + 4) := fun e he hne => by
    by_cases q : z = some e
    · have := rdz e q; omega
    · rw [rdl e he (fun x => q x)]; exact Nat.le_refl _
  refine ⟨⟨DSW, ?_, ?_, fun e he => ?_, fun e b he hb hne => ?_, ?_⟩, hitm, fun e he => ?_⟩
  · -- the dots' places
    have h1' := H.1
    rw [eb 0 (by omega)]
    by_cases ck : kb = 0
    · subst ck
      cases z with
      | none => have hv : ves W h 0 = ves V h 0 := hv
                exact ⟨r0, by rw [hv]; exact hr0⟩
      | some w =>
        obtain ⟨p, s, q1, q2⟩ := hv
        rw [hr0] at q1
        cases p with
        | nil =>
          injection q1 with x1 x2; injection x2 with x3 x4
          rw [hr2] at had
          rw [hr1] at nd
          obtain ⟨n1, n2⟩ := List.nodup_cons.mp nd
          obtain ⟨n3, _⟩ := List.nodup_cons.mp n2
          exact absurd (by rw [x3]; exact had) n3
        | cons p0 p =>
          injection q1 with x1 x2
          cases p with
          | nil => injection x2 with x3 x4
                   exact ⟨s, by rw [q2, ← x1, ← x3]; rfl⟩
          | cons p1 p => injection x2 with x3 x4
                         exact ⟨p ++ w :: s, by rw [q2, ← x1, ← x3]; rfl⟩
    · rw [hvo 0 (by omega)]; exact ⟨r0, hr0⟩
  · have h1' := H.1
    refine Dots_gen (eb 0 (by omega)) epar (fun o ho => ?_) dt
    have m0 : 1024 * vbl V h 0 ∈ fl V h := by rw [hr1]; simp
    have m1 : 1024 * vbl V h 0 + 12 ∈ fl V h := by rw [hr1]; simp
    have l0 := hlen _ m0; have l1 := hlen _ m1
    have hne : a ≠ 1024 * vbl V h 0 ∧ a ≠ 1024 * vbl V h 0 + 12 := by
      rw [hr1] at nd
      obtain ⟨n1, n2⟩ := List.nodup_cons.mp nd
      obtain ⟨n3, n4⟩ := List.nodup_cons.mp n2
      rw [hr2] at had
      exact ⟨fun e => n1 (by rw [← e]; exact List.mem_cons_of_mem _ had), fun e => n3 (by rw [← e]; exact had)⟩
    rcases (show o < 12 ∨ 12 ≤ o by omega) with q | q
    · by_cases ey : 1024 * vbl V h 0 = y
      · rcases hyc.2.2.2.2 with q' | q'
        · exact absurd ((hyc.2.2.1 q').1 ▸ ey).symm hne.1
        · have h3 := (rdz y q').2.2
          rw [← ey, dt.2.2.1] at h3
          exact absurd h3.symm hne.2
      · exact out _ m0 ey o (by omega)
    · obtain ⟨o', rfl⟩ : ∃ o', o = 12 + o' := ⟨o - 12, by omega⟩
      rw [← Nat.add_assoc]
      by_cases ey : 1024 * vbl V h 0 + 12 = y
      · rcases hyc.2.2.2.2 with q' | q'
        · exact absurd ((hyc.2.2.1 q').1 ▸ ey).symm hne.2
        · have := hyc.2.2.2.1 q'
          rw [ey]; exact iny o' (by rw [ey] at l1; omega) (by omega)
      · exact out _ m1 ey o' (by omega)
  · have heV : e ∈ (fl V h).drop 2 := by
      rw [hd2] at he
      by_cases q : z = none
      · rw [if_pos q] at he; exact he
      · rw [if_neg q] at he; exact (List.mem_filter.mp he).1
    by_cases ea : e = a
    · left
      have q : z = none := by
        rcases hyc.2.2.2.2 with q | q
        · exact q
        · rw [hd2, if_neg (by rw [q]; intro x; cases x)] at he
          have := (List.mem_filter.mp he).2
          simp [ea] at this
      rw [ea]
      refine ⟨r4a q, ?_⟩
      rcases hz with hz | ⟨w, hz, _⟩
      · exact hz.2
      · rw [q] at hz; cases hz
    · rcases hE e heV with x | x
      · left; rw [r4 e (List.mem_of_mem_drop heV) ea]; exact x
      · right
        have hei : e ∈ itm (vdat V) (fl V h) := List.mem_filter.mpr ⟨heV, nz_t.mpr (by have := x.1; omega)⟩
        have hji : rd4 (vdat V) e ≠ rd4 (vdat V) a := fun q => by
          have y1 := x.2.2.2.2.1; have y2 := Ea.2.2.2.2.1
          rw [q, y2] at y1; exact ea y1.symm
        obtain ⟨u1, u2, u3⟩ := ek _ hji
        refine Ent_gen e1 u1 u2 u3 (bytes e hei ea) ?_ x
        have := hlenW e (List.mem_of_mem_drop heV) ea
        have := x.2.2.2.2.2.2.2.2.2.1
        omega
  · obtain ⟨m1, m2⟩ := mem' e he
    obtain ⟨m3, m4⟩ := mem' b hb
    intro hs
    exact hN e b m1 m3 hne (smN_gen (fun o ho => bytes e m1 m2 o (.inr ho)) (fun o ho => bytes b m3 m4 o (.inr ho)) hs)
  · have nd' : (itm (vdat V) (fl V h)).Nodup := List.Pairwise.filter _ (List.Nodup.sublist (List.drop_sublist 2 _) nd)
    have cnt := filt_rm nd' (isD V) ha
    have hcg : (itm (vdat W) (fl W h)).filter (isD W) = ((itm (vdat V) (fl V h)).filter (fun e => e != a)).filter (isD V) := by
      rw [hitm]
      refine List.filter_congr (fun e he => ?_)
      obtain ⟨m1, m2⟩ := List.mem_filter.mp he
      have ea : e ≠ a := by simpa using m2
      have x := dirE D m1
      have hji : rd4 (vdat V) e ≠ rd4 (vdat V) a := fun q => by
        have y1 := x.2.2.2.2.1; have y2 := Ea.2.2.2.2.1
        rw [q, y2] at y1; exact ea y1.symm
      unfold isD
      rw [r4 e (itm_mem m1).1 ea, (ek _ hji).1]
    rw [hcg]
    have hia : (isD V a = true) ↔ vkd V (rd4 (vdat V) a) = 2 := by unfold isD; simp
    by_cases q : vkd V (rd4 (vdat V) a) = 2
    · rw [if_pos q] at elk; rw [if_pos (hia.mpr q)] at cnt; omega
    · rw [if_neg q] at elk; rw [if_neg (fun x => q (hia.mp x))] at cnt; omega
  · obtain ⟨m1, m2⟩ := mem' e he
    exact r4 e (itm_mem m1).1 m2
