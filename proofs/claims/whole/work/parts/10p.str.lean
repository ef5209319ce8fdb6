-- structure: what holds of blocks and owners
theorem pig : ∀ (N m : Nat) (f : Nat → Nat), (∀ k, k < m → f k < N) → (∀ k l, k < m → l < m → f k = f l → k = l) → m ≤ N := by
  intro N
  induction N with
  | zero => intro m f h _; rcases Nat.eq_zero_or_pos m with e | e
            · omega
            · have := h 0 e; omega
  | succ N ih =>
    intro m f h hi
    rcases Nat.eq_zero_or_pos m with e | e
    · omega
    · obtain ⟨m, rfl⟩ : ∃ n, m = n + 1 := ⟨m - 1, by omega⟩
      have := ih m (fun k => if f k = N then f m else f k) ?_ ?_
      · omega
      · intro k hk
        show (if f k = N then f m else f k) < N
        have h1 := h k (by omega); have h2 := h m (by omega)
        by_cases c : f k = N
        · rw [if_pos c]
          have : f m ≠ N := fun e => by have := hi k m (by omega) (by omega) (by omega); omega
          omega
        · rw [if_neg c]; omega
      · intro k l hk hl he
        have he : (if f k = N then f m else f k) = (if f l = N then f m else f l) := he
        by_cases c : f k = N <;> by_cases c' : f l = N
        · exact hi k l (by omega) (by omega) (by omega)
        · rw [if_pos c, if_neg c'] at he; have := hi m l (by omega) (by omega) he; omega
        · rw [if_neg c, if_pos c'] at he; have := hi k m (by omega) (by omega) he; omega
        · rw [if_neg c, if_neg c'] at he; exact hi k l (by omega) (by omega) he
theorem least {p : Nat → Prop} [DecidablePred p] : ∀ n, p n → ∃ m, m ≤ n ∧ p m ∧ ∀ k, k < m → ¬ p k := by
  intro n
  induction n using Nat.strongRecOn with
  | ind n ih =>
    intro h
    by_cases c : ∃ k, k < n ∧ p k
    · obtain ⟨k, hk, hp⟩ := c
      obtain ⟨m, hm, h1, h2⟩ := ih k hk hp
      exact ⟨m, by omega, h1, h2⟩
    · exact ⟨n, Nat.le_refl n, h, fun k hk hp => c ⟨k, hk, hp⟩⟩
theorem low_ex {nb : Nat} {V : VV} (B : Bas nb V) (h : 1 ≤ nfb V) : ∃ b, b < nb ∧ lowB V b := by
  obtain ⟨j, hj, hp⟩ := num_pos (show 0 < num (fun k => pfb V (1 + k)) (vQ V * vP V) from h)
  have h0 : vot V (1 + j) = 0 := by
    unfold pfb at hp; by_cases c : vot V (1 + j) = 0
    · exact c
    · rw [if_neg c] at hp; exact absurd rfl hp
  obtain ⟨m, hm, h1, h2⟩ := least (p := fun b => 1 ≤ b ∧ vot V b = 0) (1 + j) ⟨by omega, h0⟩
  have hlt : m < nb := by
    rcases Nat.lt_or_ge m nb with c | c
    · exact c
    · have := B.2.2.2 m c; omega
  exact ⟨m, hlt, h1.1, h1.2, fun c hc1 hc2 => fun e => h2 c hc2 ⟨hc1, e⟩⟩
noncomputable def lb (V : VV) : Nat := by
  classical exact if h : ∃ b, lowB V b then Classical.choose h else 0
theorem lb_eq {V : VV} {b : Nat} (h : lowB V b) : lb V = b := by
  unfold lb
  have hx : ∃ b, lowB V b := ⟨b, h⟩
  rw [dif_pos hx]
  exact lowB_eq (Classical.choose_spec hx) h
theorem lb_low {nb : Nat} {V : VV} (B : Bas nb V) (h : 1 ≤ nfb V) : lb V < nb ∧ lowB V (lb V) := by
  obtain ⟨b, h1, h2⟩ := low_ex B h
  rw [lb_eq h2]; exact ⟨h1, h2⟩
def Stc (nb : Nat) (V : VV) : Prop := Bas nb V ∧ CntB V ∧ OwnC nb V
theorem mn_lt {nb : Nat} {V : VV} (B : Bas nb V) (O : OwnC nb V) {i : Nat} (hl : live V i) : vmn V i < nb := by
  have hg := G_lt B
  have := pig (nb - 1) (vmn V i) (fun k => vbl V i k - 1) (fun k hk => by have := O.1 i k hl hk; show vbl V i k - 1 < nb - 1; omega) (fun k l hk hl' e => by
    have h1 := O.1 i k hl hk; have h2 := O.1 i l hl hl'
    have e : vbl V i k - 1 = vbl V i l - 1 := e
    have e' : vbl V i k = vbl V i l := by omega
    rw [← h1.2.2.2.2, ← h2.2.2.2.2, e'])
  omega
theorem rn_lt {nb : Nat} {V : VV} (B : Bas nb V) (O : OwnC nb V) {i : Nat} (hl : live V i) : vrn V i < nb := by
  have hg := G_lt B
  have := pig (nb - 1) (vrn V i) (fun k => vrw V i k - 1) (fun k hk => by have := O.2.2.2.2.2.2.1 i k hl hk; show vrw V i k - 1 < nb - 1; omega) (fun k l hk hl' e => by
    have h1 := O.2.2.2.2.2.2.1 i k hl hk; have h2 := O.2.2.2.2.2.2.1 i l hl hl'
    have e : vrw V i k - 1 = vrw V i l - 1 := e
    have e' : vrw V i k = vrw V i l := by omega
    rw [← h1.2.2.2.2, ← h2.2.2.2.2, e'])
  omega
theorem Bas_g {nb : Nat} {V W : VV} (B : Bas nb V) {b t : Nat} (e : W.1 = V.1) (ho : ∀ c, vot W c = if c = b then t else vot V c) (h1 : 1 ≤ b) (h2 : b < nb) (h3 : vot V b ≠ 2) (ht : t ≠ 2) : Bas nb W := by
  have eP : vP W = vP V := congrFun e 0
  have eQ : vQ W = vQ V := congrFun e 1
  have eG : vG W = vG V := congrFun e 2
  refine ⟨?_, fun c hc1 hc2 => ?_, ?_, fun c hc => ?_⟩
  · rw [eP, eQ, eG]; exact B.1
  · rw [eP, eG, ho, B.2.1 c hc1 hc2]
    by_cases h : c = b
    · subst h; rw [if_pos rfl]; omega
    · rw [if_neg h]
  · rw [ho, if_neg (by omega)]; exact B.2.2.1
  · rw [ho, if_neg (by omega)]; exact B.2.2.2 c hc
theorem CntB_of {V W : VV} (e : W.1 = V.1) (h1 : vFB W = vFB V) (h2 : vfb W = vfb V) (h3 : ∀ c, vot W c = 0 ↔ vot V c = 0) (C : CntB V) : CntB W ∧ nfb W = nfb V := by
  have eP : vP W = vP V := congrFun e 0
  have eQ : vQ W = vQ V := congrFun e 1
  have hp : ∀ c, pfb W c = pfb V c := fun c => by
    unfold pfb; by_cases h : vot V c = 0
    · rw [if_pos h, if_pos ((h3 c).mpr h)]
    · rw [if_neg h, if_neg (fun e => h ((h3 c).mp e))]
  have hn : nfb W = nfb V := by unfold nfb; rw [eP, eQ]; exact num_congr (fun j _ => hp _)
  refine ⟨fun y hy => ⟨?_, fun x hx => ?_⟩, hn⟩
  · rw [h1, hn]; exact (C y (by rw [← eQ]; exact hy)).1
  · rw [h2, (C y (by rw [← eQ]; exact hy)).2 x (by rw [← eQ]; exact hx)]
    unfold nfbg; rw [eP]; exact (num_congr (fun j _ => hp _)).symm
theorem CntB_tk {nb : Nat} {V W : VV} (B : Bas nb V) (C : CntB V) {b t : Nat} (hb : b < nb) (hlow : lowB V b) (ht : t ≠ 0) (e : W.1 = V.1) (h1 : vFB W = vFB (tkB V b)) (h2 : vfb W = vfb (tkB V b)) (ho : ∀ c, vot W c = if c = b then t else vot V c) : CntB W ∧ nfb W + 1 = nfb V := by
  have hge := nfb_ge B hlow.1 hb hlow.2.1
  have hp : pfb V b = 1 := by unfold pfb; rw [hlow.2.1]; rfl
  obtain ⟨c1, c2⟩ := CntB_mkB B C (t := 1) (F := nfb V - 1) (f := nfbg V ((b - 1) / vP V) - 1) hlow.1 hb (by simp only [hp, if_neg (show ¬ (1 : Nat) = 0 by omega)]; omega) (by simp only [hp, if_neg (show ¬ (1 : Nat) = 0 by omega)]; omega)
  have := CntB_of (V := tkB V b) (W := W) (e.trans (mkB_s _ _ _ _ _).symm) h1 h2 (fun c => by
    rw [ho]; unfold tkB; rw [mkB_t]
    by_cases h : c = b
    · rw [if_pos h, if_pos h]; omega
    · rw [if_neg h, if_neg h]) c1
  refine ⟨this.1, ?_⟩
  rw [this.2]; unfold tkB; omega
theorem Stc_gS {nb : Nat} {V : VV} (A : Stc nb V) {i b : Nat} (hb : b < nb) (hlow : lowB V b) (hl : live V i) (h0 : vsg V i = 0) : Stc nb (gS V i b) ∧ nfb (gS V i b) + 1 = nfb V := by
  obtain ⟨B, C, O⟩ := A
  have c := CntB_tk (W := gS V i b) B C hb hlow (t := 4) (by omega) (gS_S V i b) rfl rfl (gS_ot V i b)
  refine ⟨⟨Bas_g B (gS_S V i b) (gS_ot V i b) hlow.1 hb (by have := hlow.2.1; omega) (by omega), c.1, ?_⟩, c.2⟩
  obtain ⟨l1, l2, l3⟩ := hlow
  obtain ⟨o1, o2, o3, o4, o5, o6, o7, o8⟩ := O
  unfold OwnC live
  simp only [gS_ot, gS_oi, gS_ok, gS_kd, gS_mn, gS_rn, gS_sg, gS_db, gS_bl, gS_rw]
  have z := B.2.2.1
  clear B C c l3; unfold live at *; generalize vot V = ot at *; generalize voi V = oi at *; generalize vok V = ok at *; generalize vkd V = kd at *; generalize vmn V = mn at *; generalize vrn V = rn at *; generalize vsg V = sg at *; generalize vdb V = db at *; generalize vbl V = bl at *; generalize vrw V = rw at *; try clear V
  refine ⟨?_, ?_, ?_, ?_, ?_, ?_, ?_, ?_⟩ <;> grind
theorem Stc_gD {nb : Nat} {V : VV} (A : Stc nb V) {i b : Nat} (hb : b < nb) (hlow : lowB V b) (hl : live V i) (h0 : vdb V i = 0) : Stc nb (gD V i b) ∧ nfb (gD V i b) + 1 = nfb V := by
  obtain ⟨B, C, O⟩ := A
  have c := CntB_tk (W := gD V i b) B C hb hlow (t := 5) (by omega) (gD_S V i b) rfl rfl (gD_ot V i b)
  refine ⟨⟨Bas_g B (gD_S V i b) (gD_ot V i b) hlow.1 hb (by have := hlow.2.1; omega) (by omega), c.1, ?_⟩, c.2⟩
  obtain ⟨l1, l2, l3⟩ := hlow
  obtain ⟨o1, o2, o3, o4, o5, o6, o7, o8⟩ := O
  unfold OwnC live
  simp only [gD_ot, gD_oi, gD_ok, gD_kd, gD_mn, gD_rn, gD_sg, gD_db, gD_bl, gD_rw]
  have z := B.2.2.1
  clear B C c l3; unfold live at *; generalize vot V = ot at *; generalize voi V = oi at *; generalize vok V = ok at *; generalize vkd V = kd at *; generalize vmn V = mn at *; generalize vrn V = rn at *; generalize vsg V = sg at *; generalize vdb V = db at *; generalize vbl V = bl at *; generalize vrw V = rw at *; try clear V
  refine ⟨?_, ?_, ?_, ?_, ?_, ?_, ?_, ?_⟩ <;> grind
theorem Stc_gR {nb : Nat} {V : VV} (A : Stc nb V) {i b : Nat} (hb : b < nb) (hlow : lowB V b) (hl : live V i) : Stc nb (gR V i b) ∧ nfb (gR V i b) + 1 = nfb V := by
  obtain ⟨B, C, O⟩ := A
  have c := CntB_tk (W := gR V i b) B C hb hlow (t := 6) (by omega) (gR_S V i b) rfl rfl (gR_ot V i b)
  refine ⟨⟨Bas_g B (gR_S V i b) (gR_ot V i b) hlow.1 hb (by have := hlow.2.1; omega) (by omega), c.1, ?_⟩, c.2⟩
  obtain ⟨l1, l2, l3⟩ := hlow
  obtain ⟨o1, o2, o3, o4, o5, o6, o7, o8⟩ := O
  unfold OwnC live
  simp only [gR_ot, gR_oi, gR_ok, gR_kd, gR_mn, gR_rn, gR_sg, gR_db, gR_bl, gR_rw]
  have z := B.2.2.1
  clear B C c l3; unfold live at *; generalize vot V = ot at *; generalize voi V = oi at *; generalize vok V = ok at *; generalize vkd V = kd at *; generalize vmn V = mn at *; generalize vrn V = rn at *; generalize vsg V = sg at *; generalize vdb V = db at *; generalize vbl V = bl at *; generalize vrw V = rw at *; try clear V
  refine ⟨by grind, by grind, by grind, by grind, by grind, by grind, ?_, by grind⟩
  intro j r hj hr
  by_cases h : j = i ∧ r = rn i
  · obtain ⟨rfl, rfl⟩ := h; simp only [and_self, if_true]; exact ⟨l1, hb, trivial⟩
  · have h7 := o7 j r hj (by by_cases e : j = i <;> simp only [e, if_true, if_false] at hr <;> grind)
    have hne : rw j r ≠ b := fun e => by rw [e] at h7; omega
    simp only [if_neg h, if_neg hne]; exact h7
theorem Stc_gB {nb : Nat} {V : VV} (A : Stc nb V) {i b : Nat} (hb : b < nb) (hlow : lowB V b) (hl : live V i) : Stc nb (gB V i b) ∧ nfb (gB V i b) + 1 = nfb V := by
  obtain ⟨B, C, O⟩ := A
  have c := CntB_tk (W := gB V i b) B C hb hlow (t := 3) (by omega) (gB_S V i b) rfl rfl (gB_ot V i b)
  refine ⟨⟨Bas_g B (gB_S V i b) (gB_ot V i b) hlow.1 hb (by have := hlow.2.1; omega) (by omega), c.1, ?_⟩, c.2⟩
  obtain ⟨l1, l2, l3⟩ := hlow
  obtain ⟨o1, o2, o3, o4, o5, o6, o7, o8⟩ := O
  unfold OwnC live
  simp only [gB_ot, gB_oi, gB_ok, gB_kd, gB_mn, gB_rn, gB_sg, gB_db, gB_bl, gB_rw]
  have z := B.2.2.1
  clear B C c l3; unfold live at *; generalize vot V = ot at *; generalize voi V = oi at *; generalize vok V = ok at *; generalize vkd V = kd at *; generalize vmn V = mn at *; generalize vrn V = rn at *; generalize vsg V = sg at *; generalize vdb V = db at *; generalize vbl V = bl at *; generalize vrw V = rw at *; try clear V
  refine ⟨?_, by grind, by grind, by grind, by grind, by grind, by grind, by grind⟩
  intro j r hj hr
  by_cases h : j = i ∧ r = mn i
  · obtain ⟨rfl, rfl⟩ := h; simp only [and_self, if_true]; exact ⟨l1, hb, trivial⟩
  · have h7 := o1 j r hj (by by_cases e : j = i <;> simp only [e, if_true, if_false] at hr <;> grind)
    have hne : bl j r ≠ b := fun e => by rw [e] at h7; omega
    simp only [if_neg h, if_neg hne]; exact h7
