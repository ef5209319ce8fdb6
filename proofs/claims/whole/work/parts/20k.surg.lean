-- entries do not overlap
set_option maxRecDepth 4096 in
theorem Seg_sep {f : Nat → Nat} : ∀ (l : List Nat) (s e : Nat), Seg f l s e → ∀ a ∈ l, ∀ b ∈ l, a < b → a + rd2 f (a + 4) ≤ b := by
  intro l
  induction l with
  | nil => intro s e _ a ha; cases ha
  | cons x l ih =>
    intro s e h a ha b hb hab
    obtain ⟨h1, h2, h3, h4, h5⟩ := h
    subst h1
    rcases List.mem_cons.mp ha with c | c
    · subst c
      rcases List.mem_cons.mp hb with c2 | c2
      · omega
      · exact (Seg_adr _ _ _ h5 b c2).1
    · rcases List.mem_cons.mp hb with c2 | c2
      · have := (Seg_adr _ _ _ h5 a c).1; omega
      · exact ih _ _ h5 a c b c2 hab
set_option maxRecDepth 4096 in
theorem fl_sep {nb : Nat} {V : VV} (O : OwnC nb V) {i : Nat} (hl : live V i) (H : DS nb V i) {a b : Nat} (ha : a ∈ fl V i) (hb : b ∈ fl V i) (h : a < b) : a + rd2 (vdat V) (a + 4) ≤ b := by
  obtain ⟨k, k1, k2, k3⟩ := (fl_mem (vmn V i) 0).mp ha
  obtain ⟨j, j1, j2, j3⟩ := (fl_mem (vmn V i) 0).mp hb
  by_cases c : k = j
  · subst c; exact Seg_sep _ _ _ (H.2.2 k (by omega)) a k3 b j3 h
  · obtain ⟨x1, x2, x3⟩ := DS_Adr O hl H (k := k) (by omega) k3
    obtain ⟨y1, y2, y3⟩ := DS_Adr O hl H (k := j) (by omega) j3
    have o1 := O.1 i k hl (by omega); have o2 := O.1 i j hl (by omega)
    have hne : vbl V i k ≠ vbl V i j := fun e => by
      have e1 := o1.2.2.2.2; have e2 := o2.2.2.2.2; rw [e, e2] at e1; exact c e1.symm
    omega
set_option maxRecDepth 4096 in
theorem rd4_eq {f g : Nat → Nat} {a : Nat} (h : ∀ o, o < 4 → g (a + o) = f (a + o)) : rd4 g a = rd4 f a := by
  have h0 := h 0 (by omega); rw [Nat.add_zero] at h0
  unfold rd4; rw [h0, h 1 (by omega), h 2 (by omega), h 3 (by omega)]
set_option maxRecDepth 4096 in
theorem rd2_eq {f g : Nat → Nat} {a : Nat} (h : ∀ o, o < 2 → g (a + o) = f (a + o)) : rd2 g a = rd2 f a := by
  have h0 := h 0 (by omega); rw [Nat.add_zero] at h0
  unfold rd2; rw [h0, h 1 (by omega)]
set_option maxRecDepth 4096 in
theorem Ent_gen {nb : Nat} {V W : VV} {i a : Nat} (e1 : W.1 = V.1) (ek : vkd W (rd4 (vdat V) a) = vkd V (rd4 (vdat V) a)) (ep : vpar W (rd4 (vdat V) a) = vpar V (rd4 (vdat V) a)) (ee : vent W (rd4 (vdat V) a) = vent V (rd4 (vdat V) a))
    (hb : ∀ o, o < 4 ∨ (6 ≤ o ∧ o < spc (vdat V (a + 6) % 256)) → vdat W (a + o) = vdat V (a + o)) (hlen : spc (vdat V (a + 6) % 256) ≤ rd2 (vdat W) (a + 4)) (E : Ent nb V i a) : Ent nb W i a := by
  obtain ⟨x1, x2, x3, x4, x5, x6, x7, x8, x9, x10, x11⟩ := E
  have hs := spc_ge (vdat V (a + 6) % 256)
  have r4 : rd4 (vdat W) a = rd4 (vdat V) a := rd4_eq (fun o ho => hb o (.inl ho))
  have d6 := hb 6 (.inr (by omega))
  have d7 := hb 7 (.inr (by omega))
  have eQ : vQ W = vQ V := congrFun e1 1
  have eG : vG W = vG V := congrFun e1 2
  have d8 : ∀ k, k < vdat V (a + 6) % 256 → vdat W (a + 8 + k) = vdat V (a + 8 + k) := fun k hk => by rw [Nat.add_assoc]; exact hb (8 + k) (.inr (by omega))
  unfold Ent
  rw [r4, d6, d7, eQ, eG, ek, ep, ee]
  refine ⟨x1, x2, ?_, x4, x5, x6, x7, fun k hk => ?_, ?_, hlen, fun o o1 o2 => ?_⟩
  · unfold live; rw [ek]; exact x3
  · rw [d8 k hk]; exact x8 k hk
  · have e8 := d8 0 (by omega)
    rw [Nat.add_zero] at e8
    rw [e8]
    intro ⟨y1, y2⟩
    refine x9 ⟨y1, ?_⟩
    rcases y2 with y2 | ⟨y2, y3⟩
    · exact .inl y2
    · right
      have e9 := d8 1 (by omega)
      rw [show a + 8 + 1 = a + 9 by omega] at e9
      rw [e9] at y3; exact ⟨y2, y3⟩
  · rw [hb o (.inr (by omega))]; exact x11 o o1 o2
set_option maxRecDepth 4096 in
theorem smN_gen {f g : Nat → Nat} {a b : Nat} (ha : ∀ o, 6 ≤ o ∧ o < spc (f (a + 6) % 256) → g (a + o) = f (a + o)) (hb : ∀ o, 6 ≤ o ∧ o < spc (f (b + 6) % 256) → g (b + o) = f (b + o)) (h : smN g a b) : smN f a b := by
  have sa := spc_ge (f (a + 6) % 256); have sb' := spc_ge (f (b + 6) % 256)
  obtain ⟨s1, s2⟩ := h
  rw [ha 6 (by omega), hb 6 (by omega)] at s1
  refine ⟨s1, fun k hk => ?_⟩
  have s3 := s2 k (by rw [ha 6 (by omega)]; exact hk)
  rw [Nat.add_assoc, Nat.add_assoc, ha (8 + k) (by omega), hb (8 + k) (by omega), ← Nat.add_assoc, ← Nat.add_assoc] at s3
  exact s3
set_option maxRecDepth 4096 in
theorem Dots_gen {V W : VV} {i : Nat} (e0 : vbl W i 0 = vbl V i 0) (ep : vpar W i = vpar V i) (h : ∀ o, o < 16 ∨ (18 ≤ o ∧ o < 24) → vdat W (1024 * vbl V i 0 + o) = vdat V (1024 * vbl V i 0 + o)) (D : Dots V i) : Dots W i := by
  obtain ⟨d1, d2, d3, ⟨d4, d5, d6, d7⟩, d8, d9, d10, d11, d12⟩ := D
  unfold Dots
  rw [e0, ep]
  refine ⟨?_, ?_, ?_, ⟨?_, ?_, ?_, fun o o1 o2 => ?_⟩, ?_, ?_, ?_, ?_, fun o o1 o2 => ?_⟩
  · exact (rd4_eq (fun o ho => h o (by omega))).trans d1
  · exact (rd4_eq (fun o ho => by rw [Nat.add_assoc]; exact h (12 + o) (by omega))).trans d2
  · exact (rd2_eq (fun o ho => by rw [Nat.add_assoc]; exact h (4 + o) (by omega))).trans d3
  · rw [h 6 (by omega)]; exact d4
  · rw [h 7 (by omega)]; exact d5
  · rw [h 8 (by omega)]; exact d6
  · rw [h o (by omega)]; exact d7 o o1 o2
  · rw [h 18 (by omega)]; exact d8
  · rw [h 19 (by omega)]; exact d9
  · rw [h 20 (by omega)]; exact d10
  · rw [h 21 (by omega)]; exact d11
  · rw [h o (by omega)]; exact d12 o o1 o2
set_option maxRecDepth 4096 in
theorem flt_set {es es' : Nat → List Nat} {kb : Nat} (h : ∀ k, k ≠ kb → es' k = es k) : ∀ m x, x ≤ kb → kb < x + m → ∃ p s, flt es x m = p ++ (es kb ++ s) ∧ flt es' x m = p ++ (es' kb ++ s) := by
  intro m
  induction m with
  | zero => intro x h1 h2; omega
  | succ m ih =>
    intro x h1 h2
    by_cases c : x = kb
    · subst c
      have e : flt es' (x + 1) m = flt es (x + 1) m := by
        have : ∀ (m y : Nat), x < y → flt es' y m = flt es y m := by
          intro m
          induction m with
          | zero => intro y _; rfl
          | succ m ih2 => intro y hy; rw [flt, flt, h y (by omega), ih2 (y + 1) (by omega)]
        exact this m (x + 1) (by omega)
      exact ⟨[], flt es (x + 1) m, by rw [flt]; rfl, by rw [flt, e]; rfl⟩
    · obtain ⟨p, s, e1, e2⟩ := ih (x + 1) (by omega) (by omega)
      exact ⟨es x ++ p, s, by rw [flt, e1]; simp, by rw [flt, h x c, e2]; simp⟩
-- what a directory's entries have of each other
set_option maxRecDepth 4096 in
theorem dirE {nb : Nat} {V : VV} {i a : Nat} (D : DirI nb V i) (ha : a ∈ itm (vdat V) (fl V i)) : Ent nb V i a := by
  obtain ⟨m1, m2⟩ := List.mem_filter.mp ha
  rcases D.2.2.2.1 a m1 with x | x
  · exact absurd x.1 (nz_t.mp m2)
  · exact x
set_option maxRecDepth 4096 in
theorem fl_drop {nb : Nat} {V : VV} {i : Nat} (D : DirI nb V i) : ∃ r, fl V i = (1024 * vbl V i 0) :: (1024 * vbl V i 0 + 12) :: r ∧ (fl V i).drop 2 = r := by
  obtain ⟨r, hr⟩ := D.2.1
  have h1 := D.1.1
  obtain ⟨M, hM⟩ : ∃ M, vmn V i = M + 1 := ⟨vmn V i - 1, by omega⟩
  have hflt : fl V i = ves V i 0 ++ flt (ves V i) 1 M := by unfold fl; rw [hM]; rfl
  refine ⟨r ++ flt (ves V i) 1 M, by rw [hflt, hr]; rfl, by rw [hflt, hr]; rfl⟩
