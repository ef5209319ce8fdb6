def gcov (nb : Nat) (V : VV) (g : Nat → Nat) (x : Nat) : Prop := (∀ r o, r < 4 → r ≠ 1 → o < 1024 → g (1024 * (1 + x * vP V + r) + o) = TT nb V (1024 * (1 + x * vP V + r) + o)) ∧ (∀ y o, y < vQ V → o < 32 → g (1024 * (1 + y * vP V + 1) + (32 * x + o)) = TT nb V (1024 * (1 + y * vP V + 1) + (32 * x + o)))
set_option maxRecDepth 4096 in
theorem gcov_adv {nb : Nat} {V : VV} (B : Bas nb V) {g g' : Nat → Nat} (a : Adv nb V g g') {x : Nat} (hx : x < vQ V) (c : gcov nb V g x) : gcov nb V g' x := by
  have hg := G_lt B
  have hgx := B.1.grp hx
  refine ⟨fun r o hr h1 ho => a.2 _ (by omega) (c.1 r o hr h1 ho), fun y o hy ho => ?_⟩
  have hgy := B.1.grp hy
  exact a.2 _ (by omega) (c.2 y o hy ho)
def icov (nb : Nat) (V : VV) (g : Nat → Nat) (i : Nat) : Prop := (∀ o, (o < 40 ∨ (88 ≤ o ∧ o < 128)) → g (inoA (vP V) (vG V) i + o) = TT nb V (inoA (vP V) (vG V) i + o)) ∧ (∀ k, k < vmn V i → cov nb V i g k)
set_option maxRecDepth 4096 in
theorem icov_adv {nb : Nat} {V : VV} (A : Stc nb V) {g g' : Nat → Nat} (a : Adv nb V g g') {i : Nat} (h1 : 1 ≤ i) (h2 : i ≤ vQ V * vG V) (hl : live V i) (P : Shp V i) (c : icov nb V g i) : icov nb V g' i := by
  have hA := inoA_lt A.1 h1 h2
  exact ⟨fun o ho => a.2 _ (by omega) (c.1 o ho), fun k hk => cov_adv A h1 h2 hl P hk a (c.2 k hk)⟩
set_option maxRecDepth 4096 in
theorem TT_all {nb : Nat} {V : VV} (G : Good nb V) {g : Nat → Nat} (Z : Zr nb V g) (cg : ∀ x, x < vQ V → gcov nb V g x) (ci : ∀ i, 1 ≤ i → i ≤ vQ V * vG V → live V i → icov nb V g i) {b o : Nat} (hb : b < nb) (ho : o < 1024) (hv : vot V b ≠ 0) : g (1024 * b + o) = TT nb V (1024 * b + o) := by
  have A := G.1
  have hg := G_lt A.1
  have z0 : TT nb V (1024 * b + o) = 0 → g (1024 * b + o) = TT nb V (1024 * b + o) := fun e => by
    rcases Z (1024 * b + o) (by omega) with q | q
    · exact q
    · rw [q, e]
  have hb0 : vot V 0 = 7 := A.1.2.2.1
  have bz : ∀ j, byt 0 j = 0 := fun j => by unfold byt; simp
  by_cases c2 : vot V b = 2
  · have hb1 : 1 ≤ b := by
      rcases Nat.eq_zero_or_pos b with q | q
      · rw [q, hb0] at c2; omega
      · exact q
    have hr := (A.1.2.1 b hb1 hb).mpr c2
    obtain ⟨d1, d2, d3⟩ := A.1.1.div hb1 hb
    generalize hx : (b - 1) / vP V = x at *
    generalize hrr : (b - 1) % vP V = r at *
    have eb : b = 1 + x * vP V + r := by omega
    by_cases c4 : r < 4
    · by_cases c1 : r = 1
      · subst c1
        by_cases cy : o / 32 < vQ V
        · have := (cg (o / 32) cy).2 x (o % 32) d1 (by omega)
          rw [show 32 * (o / 32) + o % 32 = o by omega, ← eb] at this
          exact this
        · refine z0 ?_
          rw [TT_b _ ho, eb, img_fx A.1 d1 (by omega), fx_1, if_neg cy]
      · have := (cg x d1).1 r o c4 c1 ho
        rw [← eb] at this; exact this
    · obtain ⟨v1, v2, v3⟩ := A.1.1.inv hb1 hb ho (by rw [hrr]; omega) (by rw [hrr]; exact hr)
      generalize hi : inoX (vP V) (vG V) b o = i at *
      have eT : TT nb V (1024 * b + o) = ino V i (o % 128) % 256 := by
        rw [TT_b _ ho, img_2 _ c2, hx, hrr, fx_4 _ _ _ _ _ _ (by omega), hi]
      by_cases hl : live V i
      · obtain ⟨i1, i2⟩ := ci i v1 v2 hl
        by_cases c40 : o % 128 < 40 ∨ (88 ≤ o % 128 ∧ o % 128 < 128)
        · have := i1 (o % 128) c40
          rw [v3] at this; exact this
        · by_cases ck : (o % 128 - 40) / 4 < vmn V i
          · have := (i2 _ ck).2.1 (by omega) ((o % 128 - 40) % 4) (by omega)
            rw [show inoA (vP V) (vG V) i + 40 + 4 * ((o % 128 - 40) / 4) + (o % 128 - 40) % 4 = inoA (vP V) (vG V) i + o % 128 by omega, v3] at this
            exact this
          · refine z0 ?_
            rw [eT]; unfold ino
            rw [if_pos hl, if_pos (by omega)]; unfold ptr; rw [if_neg ck, bz]
      · refine z0 ?_
        rw [eT]; unfold ino; rw [if_neg hl]
  by_cases c3 : vot V b = 3
  · obtain ⟨l1, l2, l3⟩ := A.2.2.2.1 b hb c3
    have hin := G.ino l1
    have := ((ci _ hin.1 hin.2.1 l1).2 _ l2).1 o ho
    rw [l3] at this; exact this
  by_cases c4 : vot V b = 4
  · obtain ⟨l1, l2⟩ := A.2.2.2.2.2.1 b hb c4
    have hin := G.ino l1
    have eT : TT nb V (1024 * b + o) = byt (ptr V (voi V b) (12 + o / 4)) (o % 4) := by
      have := TT_p1 (nb := nb) (j := o % 4) c4 rfl (w := o / 4) (by omega) (by omega)
      rw [show 1024 * b + 4 * (o / 4) + o % 4 = 1024 * b + o by omega] at this; exact this
    by_cases ck : 12 + o / 4 < vmn V (voi V b)
    · have := ((ci _ hin.1 hin.2.1 l1).2 _ ck).2.2.1 (by omega) (by omega) (o % 4) (by omega)
      rw [l2, show 1024 * b + 4 * (12 + o / 4 - 12) + o % 4 = 1024 * b + o by omega] at this; exact this
    · refine z0 ?_
      rw [eT]; unfold ptr; rw [if_neg ck, bz]
  by_cases c5 : vot V b = 5
  · obtain ⟨l1, l2⟩ := A.2.2.2.2.2.2.2.1 b hb c5
    have hin := G.ino l1
    have P := (G.2.2.2.1 _ l1).1
    have eT : TT nb V (1024 * b + o) = byt (if o / 4 < vrn V (voi V b) then vrw V (voi V b) (o / 4) else 0) (o % 4) := by
      have := TT_p2 (nb := nb) (j := o % 4) c5 rfl (w := o / 4) (by omega) (by omega)
      rw [show 1024 * b + 4 * (o / 4) + o % 4 = 1024 * b + o by omega] at this; exact this
    by_cases ck : o / 4 < vrn V (voi V b)
    · have hr := P.2.2.1
      by_cases c268 : 268 < vmn V (voi V b)
      · rw [if_pos c268] at hr
        have := ((ci _ hin.1 hin.2.1 l1).2 268 c268).2.2.2.2 rfl (o % 4) (by omega)
        rw [l2, show 1024 * b + 4 * 0 + o % 4 = 1024 * b + o by omega] at this; exact this
      · rw [if_neg c268] at hr; omega
    · refine z0 ?_
      rw [eT, if_neg ck, bz]
  by_cases c6 : vot V b = 6
  · obtain ⟨l1, l2, l3⟩ := A.2.2.2.2.2.2.2.2.2 b hb c6
    have hin := G.ino l1
    have P := (G.2.2.2.1 _ l1).1
    have hr := P.2.2.1
    have hk0 : vok V b = 0 := by
      by_cases c268 : 268 < vmn V (voi V b)
      · rw [if_pos c268] at hr; omega
      · rw [if_neg c268] at hr; omega
    have eT : TT nb V (1024 * b + o) = byt (ptr V (voi V b) (268 + 256 * 0 + o / 4)) (o % 4) := by
      have := TT_p3 (nb := nb) (j := o % 4) c6 rfl hk0 (w := o / 4) (by omega) (by omega)
      rw [show 1024 * b + 4 * (o / 4) + o % 4 = 1024 * b + o by omega] at this; exact this
    by_cases ck : 268 + 256 * 0 + o / 4 < vmn V (voi V b)
    · have := ((ci _ hin.1 hin.2.1 l1).2 _ ck).2.2.2.1 (by omega) (o % 4) (by omega)
      rw [hk0] at l3
      rw [l3, show 1024 * b + 4 * (268 + 256 * 0 + o / 4 - 268) + o % 4 = 1024 * b + o by omega] at this; exact this
    · refine z0 ?_
      rw [eT]; unfold ptr; rw [if_neg ck, bz]
  · refine z0 ?_
    rw [TT_b _ ho]; unfold img; rw [if_neg c2, if_neg c3, if_neg c4, if_neg c5, if_neg c6]
set_option maxRecDepth 4096 in
theorem inos_M {nb : Nat} {V : VV} (G : Good nb V) {τ : XS} {f g0 : Nat → Nat} (R : RM nb V τ f) (Z : Zr nb V g0) :
    ∃ g', (Adv nb V g0 g' ∧ ∀ i, 1 ≤ i → i ≤ vQ V * vG V → live V i → icov nb V g' i) ∧ lfix (fun k63 t => fMX12_show_0_63 nb k63 t.1 t.2) FU (nI 1, XD (XI τ g0) f) = some (XD (XI τ g') f) := by
  have A := G.1
  have hg := G_lt A.1
  have s7 : ∀ g, (XD (XI τ g) f).1 7 = nI (vQ V) := fun _ => R.1.2.2.2.2.1
  have s5 : ∀ g, (XD (XI τ g) f).1 5 = nI (vG V) := fun _ => R.1.2.2.1
  have key : ∃ g', (1 ≤ vQ V * vG V + 1 ∧ Adv nb V g0 g' ∧ ∀ i, 1 ≤ i → i < vQ V * vG V + 1 → live V i → icov nb V g' i) ∧ ∀ u : Unit, lfix ((fun _ k63 t => fMX12_show_0_63 nb k63 t.1 t.2) u) FU (nI 1, XD (XI τ g0) f) = some (XD (XI τ g') f) := by
    refine lfor (κ := Unit) (fun _ k63 t => fMX12_show_0_63 nb k63 t.1 t.2) (fun k (g' : Nat → Nat) => (nI k, XD (XI τ g') f)) (fun _ g' => some (XD (XI τ g') f)) (vQ V * vG V + 1) (fun k g' => 1 ≤ k ∧ Adv nb V g0 g' ∧ ∀ i, 1 ≤ i → i < k → live V i → icov nb V g' i) ?_ ?_ 1 g0 FU (by omega) ⟨Nat.le_refl _, Adv_rfl Z, by omega⟩ (by unfold FU; omega)
    · rintro k g hk ⟨hk1, a1, a2⟩
      · have r6 : (XD (XI τ g) f).2.1 6 k = nI (vkd V k) := by rw [XD_k _ _ _ _ (by omega), XI_o _ _ (by omega)]; exact (R.2.2.1 k (by omega)).1
        have h4 := G.2.2.2.2.2.1.1 k
        by_cases hl : live V k
        · obtain ⟨g2, c1, c2, c3, c4⟩ := ino_M A R a1.1 hk1 (by omega) hl (G.2.2.2.1 k hl).1
          refine ⟨g2, ⟨by omega, Adv_trans a1 c1, fun i h1 h2 hl' => ?_⟩, fun _ K => ?_⟩
          · by_cases c : i = k
            · subst c; exact ⟨c2, c3⟩
            · exact icov_adv A c1 h1 (by omega) hl' (G.2.2.2.1 i hl').1 (a2 i h1 (by omega) hl')
          · rcases hl with q | q
            · rw [q] at r6
              simp (disch := omega) only [fMX12_show_0_63, fMX12_show_0_96, fMX12_show_0_101, s7, s5, nI_mul, lit, litN, nI_ltI', nI_leI', nI_eqI, nI_clampI, n_or, if_neg, r6, if_true, c4, obs, nI_add]
            · rw [q] at r6
              simp (disch := omega) only [fMX12_show_0_63, fMX12_show_0_96, fMX12_show_0_101, s7, s5, nI_mul, lit, litN, nI_ltI', nI_leI', nI_eqI, nI_clampI, n_or, if_neg, r6, if_true, c4, obs, nI_add]
        · refine ⟨g, ⟨by omega, a1, fun i h1 h2 hl' => ?_⟩, fun _ K => ?_⟩
          · by_cases c : i = k
            · subst c; exact absurd hl' hl
            · exact a2 i h1 (by omega) hl'
          · unfold live at hl
            simp (disch := omega) only [fMX12_show_0_63, fMX12_show_0_101, s7, s5, nI_mul, lit, litN, nI_ltI', nI_leI', nI_eqI, nI_clampI, n_or, if_neg, r6, nI_add]
    · rintro g ⟨_, a1, a2⟩ _ K
      simp (disch := omega) only [fMX12_show_0_63, s7, s5, nI_mul, lit, litN, nI_ltI', nI_leI', nI_eqI, nI_clampI, if_pos]
  obtain ⟨g', ⟨_, a1, a2⟩, h⟩ := key
  exact ⟨g', ⟨a1, fun i h1 h2 hl => a2 i h1 (by omega) hl⟩, h ()⟩
