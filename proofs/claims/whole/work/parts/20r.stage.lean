-- the entry's own bytes
def EntB (g : Nat → Nat) (e i ln n t : Nat) (w : Nat → Nat) : Prop := rd4 g e = i ∧ rd2 g (e + 4) = ln ∧ g (e + 6) % 256 = n ∧ g (e + 7) % 256 = t ∧ (∀ k, k < n → g (e + 8 + k) % 256 = w k % 256) ∧ ∀ o, 8 + n ≤ o → o < spc n → g (e + o) % 256 = 0
set_option maxRecDepth 4096 in
theorem EntB_ent (f : Nat → Nat) {e i ln n t : Nat} (w : Nat → Nat) (hi : i < 4294967296) (hl : ln < 65536) (hn : n < 256) (ht : t < 256) : EntB (entW f e i ln n t w) e i ln n t w := by
  have hs := spc_ge n
  refine ⟨rd4_of hi (fun j hj => ?_), rd2_of hl (fun j hj => ?_), ?_, ?_, fun k hk => ?_, fun o o1 o2 => ?_⟩
  · unfold entW; rw [if_neg (by omega), if_pos (by omega), show e + j - e = j by omega]
  · unfold entW; rw [if_neg (by omega), if_neg (by omega), if_pos (by omega), show e + 4 + j - (e + 4) = j by omega]
  · unfold entW; rw [if_neg (by omega), if_neg (by omega), if_neg (by omega), if_pos (by omega)]; omega
  · unfold entW; rw [if_neg (by omega), if_neg (by omega), if_neg (by omega), if_neg (by omega), if_pos (by omega)]; omega
  · unfold entW; rw [if_neg (by omega), if_neg (by omega), if_neg (by omega), if_neg (by omega), if_neg (by omega), if_pos (by omega), show e + 8 + k - (e + 8) = k by omega, Nat.mod_mod]
  · unfold entW; rw [if_neg (by omega), if_neg (by omega), if_neg (by omega), if_neg (by omega), if_neg (by omega), if_neg (by omega), if_pos (by omega)]
set_option maxRecDepth 4096 in
theorem ent_out {f : Nat → Nat} {e i ln n t x : Nat} {w : Nat → Nat} (h : x < e ∨ e + spc n ≤ x) : entW f e i ln n t w x = f x := by
  have hs := spc_ge n
  unfold entW
  rcases h with h | h
  · rw [if_pos h]
  · rw [if_neg (by omega), if_neg (by omega), if_neg (by omega), if_neg (by omega), if_neg (by omega), if_neg (by omega), if_neg (by omega)]
def Gm (y kept e i ln n t : Nat) (w : Nat → Nat) (f : Nat → Nat) : Nat → Nat := entW (wrN f (y + 4) 2 kept) e i ln n t w
set_option maxRecDepth 4096 in
theorem Gm_0 {y i ln n t : Nat} {w : Nat → Nat} (f : Nat → Nat) : Gm y 0 y i ln n t w f = entW f y i ln n t w := by
  have hs := spc_ge n
  refine ent_over (fun x hx => ?_)
  unfold wrN; rw [if_neg (by omega)]
-- room in an old block
set_option maxRecDepth 4096 in
theorem ins_A {nb : Nat} {V : VV} (G : Good nb V) {h y i n t : Nat} {w : Nat → Nat} {l1 l2 : List Nat} (hk : vkd V h = 2) (hfl : fl V h = l1 ++ y :: l2) (hr : rmf (vdat V) n y) (hn1 : 1 ≤ n) (hn : n ≤ 255) (hi : i < 3000) (ht : t < 256) :
    ∃ kb L', kb < vmn V h ∧ y / 1024 = vbl V h kb ∧ (let e := y + usd (vdat V) y; let ln := rd2 (vdat V) (y + 4) - usd (vdat V) y; let g := Gm y (usd (vdat V) y) e i ln n t w (vdat V);
      Loc (vbl V h kb) (Gm y (usd (vdat V) y) e i ln n t w) ∧ e + spc n ≤ y + rd2 (vdat V) (y + 4) ∧ (∀ k, k < vmn V h → Seg g (if k = kb then L' else ves V h k) (1024 * vbl V h k) (1024 * vbl V h k + 1024)) ∧
      (∃ r, (if 0 = kb then L' else ves V h 0) = (1024 * vbl V h 0) :: (1024 * vbl V h 0 + 12) :: r) ∧
      (∃ P S, 2 ≤ P.length ∧ flt (fun k => if k = kb then L' else ves V h k) 0 (vmn V h) = P ++ e :: S ∧ (fl V h = P ++ S ∨ (fl V h = P ++ e :: S ∧ rd4 (vdat V) e = 0)) ∧ e ∉ P ∧ e ∉ S) ∧
      (∀ o, o < 12 → g (1024 * vbl V h 0 + o) = vdat V (1024 * vbl V h 0 + o)) ∧ (∀ x ∈ fl V h, x ≠ e → (∀ o, o < 4 ∨ (6 ≤ o ∧ o < usd (vdat V) x) → g (x + o) = vdat V (x + o)) ∧ usd (vdat V) x ≤ rd2 g (x + 4)) ∧ EntB g e i ln n t w ∧ spc n ≤ ln ∧ ln ≤ 1024 ∧ e % 4 = 0) := by
  obtain ⟨hl, D, D2, hL⟩ := dirF G hk
  have O := G.1.2.2
  obtain ⟨H, ⟨r0, hr0⟩, dt, hE, hN, hLk⟩ := D
  have D : DirI nb V h := ⟨H, ⟨r0, hr0⟩, dt, hE, hN, hLk⟩
  obtain ⟨r, hr1, hr2⟩ := fl_drop D
  have nd := fl_nd O hl H
  have hy : y ∈ fl V h := by rw [hfl]; simp
  obtain ⟨kb, kb1, kb2, kb3⟩ := (fl_mem (vmn V h) 0).mp hy
  obtain ⟨m1, m2, hm⟩ := List.append_of_mem kb3
  have hkb : kb < vmn V h := by omega
  have ya := DS_Adr O hl H hkb kb3
  have ylen := (Seg_adr _ _ _ (H.2.2 kb hkb) y kb3).2.2.2.2
  obtain ⟨La1, La2, La3, La4⟩ := hL y hy
  have hus : usd (vdat V) y ≤ rd2 (vdat V) (y + 4) := by
    by_cases c : rd4 (vdat V) y = 0
    · unfold usd; rw [if_pos c]; omega
    · exact La4 c
  have hu4 : usd (vdat V) y % 4 = 0 := by
    unfold usd; split
    · rfl
    · exact (spc_ge _).2.2
  have hu12 : usd (vdat V) y = 0 ∨ 8 ≤ usd (vdat V) y := by
    unfold usd; split
    · left; rfl
    · right; have := spc_ge (vdat V (y + 6) % 256); omega
  have hrm : usd (vdat V) y + spc n ≤ rd2 (vdat V) (y + 4) := hr
  have hsn := spc_ge n
  generalize hkept : usd (vdat V) y = kept at *
  generalize hlen : rd2 (vdat V) (y + 4) = len at *
  obtain ⟨e, he⟩ : ∃ e, e = y + kept := ⟨_, rfl⟩
  obtain ⟨ln, hln⟩ : ∃ ln, ln = len - kept := ⟨_, rfl⟩
  obtain ⟨g, hg⟩ : ∃ g, g = Gm y kept e i ln n t w (vdat V) := ⟨_, rfl⟩
  have hlens : ∀ x ∈ fl V h, 12 ≤ rd2 (vdat V) (x + 4) ∧ x % 1024 + rd2 (vdat V) (x + 4) ≤ 1024 := fun x hx => by
    obtain ⟨k, _, _, _, k4, k5⟩ := fl_adr O hl H hx; exact ⟨k5, k4⟩
  have gout : ∀ x, ¬ (y ≤ x ∧ x < y + len) → g x = vdat V x := fun x hx => by
    rw [hg]; unfold Gm; rw [ent_out (by omega)]; unfold wrN; rw [if_neg (by omega)]
  have out : ∀ x ∈ fl V h, x ≠ y → ∀ o, o < rd2 (vdat V) (x + 4) → g (x + o) = vdat V (x + o) := fun x hx hne o ho => by
    refine gout _ ?_
    rcases Nat.lt_or_gt_of_ne hne with q | q
    · have := fl_sep O hl H hx hy q; omega
    · have := fl_sep O hl H hy hx q; rw [hlen] at this; omega
  have EB : EntB g e i ln n t w := by rw [hg]; exact EntB_ent _ w (by omega) (by omega) (by omega) ht
  have rdx : ∀ x ∈ fl V h, x ≠ y → rd2 g (x + 4) = rd2 (vdat V) (x + 4) := fun x hx hne => rd2_eq (fun o ho => by
    rw [Nat.add_assoc]; exact out x hx hne (4 + o) (by have := (hlens x hx).1; omega))
  have rdy : 0 < kept → rd2 g (y + 4) = kept ∧ ∀ o, o < 4 ∨ (6 ≤ o ∧ o < kept) → g (y + o) = vdat V (y + o) := fun hpos => by
    refine ⟨rd2_of (by omega) (fun o ho => ?_), fun o ho => ?_⟩
    · rw [hg]; unfold Gm; rw [ent_out (by omega)]; unfold wrN; rw [if_pos (by omega), show y + 4 + o - (y + 4) = o by omega]
    · rw [hg]; unfold Gm; rw [ent_out (by omega)]; unfold wrN; rw [if_neg (by omega)]
  have memb : ∀ x, x ∈ ves V h kb → x ∈ fl V h := fun x hx => (fl_mem _ 0).mpr ⟨kb, by omega, by omega, hx⟩
  have pwb := Seg_pw _ _ _ (H.2.2 kb hkb)
  rw [hm] at pwb
  have ndb : (m1 ++ y :: m2).Nodup := List.nodup_iff_pairwise_ne.mpr (pwb.imp (fun h => by omega))
  have neb : (∀ x ∈ m1, x ≠ y) ∧ ∀ x ∈ m2, x ≠ y := by
    rw [List.nodup_append] at ndb
    refine ⟨fun x hx q => ndb.2.2 x hx y (by simp) q, fun x hx q => (List.nodup_cons.mp ndb.2.1).1 (by rw [← q]; exact hx)⟩
  have hSkb := H.2.2 kb hkb
  rw [hm] at hSkb
  obtain ⟨mid, s1, s2⟩ := (Seg_app _ _ _ _).mp hSkb
  obtain ⟨s3, s4, s5, s6, s7⟩ := s2
  subst s3
  rw [hlen] at s4 s5 s6 s7
  have s1' : Seg g m1 (1024 * vbl V h kb) y := Seg_len _ _ _ (fun x hx => rdx x (memb x (by rw [hm]; exact List.mem_append_left _ hx)) (neb.1 x hx)) s1
  have s7' : Seg g m2 (y + len) (1024 * vbl V h kb + 1024) := Seg_len _ _ _ (fun x hx => rdx x (memb x (by rw [hm]; exact List.mem_append_right _ (List.mem_cons_of_mem _ hx))) (neb.2 x hx)) s7
  have hy0 : y ≠ 1024 * vbl V h 0 := fun q => by
    have u : usd (vdat V) y = 12 := by
      unfold usd
      have h4 : rd4 (vdat V) y = h := by rw [q]; exact dt.1
      have hh := (G.ino hl).1
      rw [if_neg (by omega), q, dt.2.2.2.1.1]; rfl
    have l12 : len = 12 := by rw [← hlen, q]; exact dt.2.2.1
    rw [hkept] at u; omega
  have e0len : rd2 (vdat V) (1024 * vbl V h 0 + 4) = 12 := dt.2.2.1
  have m0 : 1024 * vbl V h 0 ∈ fl V h := by rw [hr1]; simp
  have hd0 : ∀ o, o < 12 → g (1024 * vbl V h 0 + o) = vdat V (1024 * vbl V h 0 + o) := fun o ho => out _ m0 (fun q => hy0 q.symm) o (by rw [e0len]; exact ho)
  have hLoc : Loc (vbl V h kb) (Gm y kept e i ln n t w) := by
    have y2 := ya.2.1; have y3 := ya.2.2
    have q1 : Loc (vbl V h kb) (fun f => entW f e i ln n t w) := Loc_ent (by omega) (by omega)
    have q2 : Loc (vbl V h kb) (fun f => wrN f (y + 4) 2 kept) := Loc_wrN kept (by omega) (by omega)
    have q3 := Loc_comp q1 q2
    exact q3
  obtain ⟨p, s, f1, f2⟩ := flt_set (es := ves V h) (es' := fun k => if k = kb then (if kept = 0 then m1 ++ y :: m2 else m1 ++ y :: e :: m2) else ves V h k) (kb := kb) (fun k hk' => by show (if k = kb then _ else ves V h k) = _; rw [if_neg hk']) (vmn V h) 0 (by omega) (by omega)
  have f1' : fl V h = p ++ (m1 ++ y :: m2) ++ s := by show flt (ves V h) 0 (vmn V h) = _; rw [f1, hm]; simp
  refine ⟨kb, if kept = 0 then m1 ++ y :: m2 else m1 ++ y :: e :: m2, hkb, ya.2.1, ?_⟩
  show _
  rw [← he, ← hln]
  simp only []
  rw [← hg]
  refine ⟨hLoc, by omega, fun k hk' => ?_, ?_, ?_, hd0, fun x hx hne => ?_, EB, by omega, by omega, by have := La1.2.2.1; omega⟩
  · by_cases c : k = kb
    · subst c
      rw [if_pos rfl]
      by_cases z : kept = 0
      · rw [if_pos z]
        have ey : e = y := by omega
        refine (Seg_app _ _ _ _).mpr ⟨y, s1', rfl, ?_⟩
        have : rd2 g (y + 4) = len := by have := EB.2.1; rw [ey] at this; rw [this]; omega
        rw [this]
        exact ⟨s4, s5, s6, s7'⟩
      · rw [if_neg z]
        have hy2 := (rdy (by omega)).1
        refine (Seg_app _ _ _ _).mpr ⟨y, s1', rfl, ?_⟩
        rw [hy2]
        have hk12 : 12 ≤ kept := by
          rw [← hkept]; unfold usd
          by_cases q : rd4 (vdat V) y = 0
          · exfalso; unfold usd at hkept; rw [if_pos q] at hkept; omega
          · rw [if_neg q]
            have hnl : 1 ≤ vdat V (y + 6) % 256 := by
              by_cases q1 : y = 1024 * vbl V h 0 + 12
              · rw [q1, show 1024 * vbl V h 0 + 12 + 6 = 1024 * vbl V h 0 + 18 from rfl, dt.2.2.2.2.1]; omega
              · have hyd : y ∈ (fl V h).drop 2 := by
                  rw [hr2]; rw [hr1] at hy
                  rcases List.mem_cons.mp hy with q2 | q2
                  · exact absurd q2 hy0
                  · rcases List.mem_cons.mp q2 with q2 | q2
                    · exact absurd q2 q1
                    · exact q2
                rcases hE y hyd with q2 | q2
                · exact absurd q2.1 q
                · exact q2.2.2.2.2.2.2.1
            unfold spc; omega
        refine ⟨hk12, hu4, by omega, he ▸ rfl, ?_⟩
        rw [← he, EB.2.1]
        refine ⟨by omega, by omega, by omega, ?_⟩
        rw [show e + ln = y + len by omega]; exact s7'
    · rw [if_neg c]
      refine Seg_len _ _ _ (fun x hx => rdx x ((fl_mem _ 0).mpr ⟨k, by omega, by omega, hx⟩) (fun q => ?_)) (H.2.2 k hk')
      have x1 := (DS_Adr O hl H hk' hx).2.1
      rw [q, ya.2.1] at x1
      have o1 := O.1 h k hl hk'; have o2 := O.1 h kb hl hkb
      have a1 := o1.2.2.2.2; have a2 := o2.2.2.2.2; rw [← x1, a2] at a1; exact c a1.symm
  · by_cases c : 0 = kb
    · rw [if_pos c]
      rw [← c, hr0] at hm
      cases m1 with
      | nil => injection hm with q1 q2; exact absurd q1.symm hy0
      | cons a m1 =>
        injection hm with q1 q2
        cases m1 with
        | nil =>
          injection q2 with q3 q4
          by_cases z : kept = 0
          · rw [if_pos z]; exact ⟨m2, by rw [← q1, ← q3]; rfl⟩
          · rw [if_neg z]; exact ⟨e :: m2, by rw [← q1, ← q3]; rfl⟩
        | cons a2 m1 =>
          injection q2 with q3 q4
          by_cases z : kept = 0
          · rw [if_pos z]; exact ⟨m1 ++ y :: m2, by rw [← q1, ← q3]; rfl⟩
          · rw [if_neg z]; exact ⟨m1 ++ y :: e :: m2, by rw [← q1, ← q3]; rfl⟩
    · rw [if_neg c]; exact ⟨r0, hr0⟩
  · rw [f2]
    show ∃ P S, 2 ≤ P.length ∧ p ++ ((if kb = kb then (if kept = 0 then m1 ++ y :: m2 else m1 ++ y :: e :: m2) else ves V h kb) ++ s) = P ++ e :: S ∧ _
    rw [if_pos rfl]
    have pre : fl V h = (p ++ m1) ++ y :: (m2 ++ s) := by rw [f1']; simp
    have hne0 : 1 ≤ (p ++ m1).length := by
      cases hpm : p ++ m1 with
      | nil => rw [hpm, hr1] at pre; injection pre with q1 q2; exact absurd q1.symm hy0
      | cons a b => simp
    by_cases z : kept = 0
    · have ey : e = y := by omega
      have rd0 : rd4 (vdat V) y = 0 := by
        unfold usd at hkept
        by_cases q : rd4 (vdat V) y = 0
        · exact q
        · rw [if_neg q] at hkept; have := spc_ge (vdat V (y + 6) % 256); omega
      rw [if_pos z]
      refine ⟨p ++ m1, m2 ++ s, ?_, by rw [ey]; simp, .inr ⟨by rw [ey]; exact pre, by rw [ey]; exact rd0⟩, ?_, ?_⟩
      · cases hpm : p ++ m1 with
        | nil => rw [hpm] at hne0; simp at hne0
        | cons a b =>
          cases b with
          | nil =>
            rw [hpm, hr1] at pre
            injection pre with q1 q2; injection q2 with q3 q4
            exfalso
            rw [← q3] at rd0
            rw [dt.2.1] at rd0
            by_cases h2 : h = 2
            · rw [h2, G.2.2.2.2.2.2.2.2.1] at rd0; omega
            · have := (G.2.2.2.2.2.2.2.1 h hl h2).1
              rw [rd0, G.2.2.2.2.2.1.2.1] at this; omega
          | cons a2 b => simp
      · rw [pre, List.nodup_append] at nd
        intro q; exact nd.2.2 e q y (by simp) ey
      · rw [pre, List.nodup_append] at nd
        intro q; rw [ey] at q; exact (List.nodup_cons.mp nd.2.1).1 q
    · have hnf : e ∉ fl V h := fun q => by
        have := fl_sep O hl H hy q (by omega)
        rw [hlen] at this; omega
      rw [if_neg z]
      refine ⟨p ++ m1 ++ [y], m2 ++ s, by rw [List.length_append]; show 2 ≤ (p ++ m1).length + 1; omega, by simp, .inl (by rw [pre]; simp), ?_, ?_⟩
      · intro q; refine hnf ?_; rw [pre]
        rcases List.mem_append.mp q with q | q
        · exact List.mem_append_left _ q
        · have : e = y := by simpa using q
          rw [this]; simp
      · intro q; refine hnf ?_; rw [pre]; exact List.mem_append_right _ (List.mem_cons_of_mem _ q)
  · by_cases c : x = y
    · subst c
      have hpos : 0 < kept := by omega
      obtain ⟨u1, u2⟩ := rdy hpos
      rw [hkept, u1]; exact ⟨u2, Nat.le_refl _⟩
    · refine ⟨fun o ho => out x hx c o ?_, ?_⟩
      · obtain ⟨A1, A2, A3, A4⟩ := hL x hx
        rcases ho with ho | ho
        · omega
        · by_cases q : rd4 (vdat V) x = 0
          · unfold usd at ho; rw [if_pos q] at ho; omega
          · have := A4 q; omega
      · rw [rdx x hx c]
        obtain ⟨A1, A2, A3, A4⟩ := hL x hx
        by_cases q : rd4 (vdat V) x = 0
        · unfold usd; rw [if_pos q]; omega
        · exact A4 q
