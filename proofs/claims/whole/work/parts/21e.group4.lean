set_option maxRecDepth 4096 in
theorem dsc_M {nb : Nat} {V : VV} (Bs : Bas nb V) {τ : XS} {f g : Nat → Nat} (R : RM nb V τ f) {x y F I D : Nat} (hx : x < vQ V) (hy : y < vQ V) (K : (Int32 × Int32 × Int32 × Int32 × Int32 × XS) → Option XS) :
    fMX12_showGroup_0_221 nb K (nI x) (nI F) (nI I) (nI D) (nI y) (XD (XI τ g) f) = K (nI x, nI F, nI I, nI D, nI (y + 1), XD (XI τ (wrs (1024 * (1 + y * vP V + 1) + 32 * x) [(0, 4, 1 + x * vP V + 2), (4, 4, 1 + x * vP V + 3), (8, 4, 1 + x * vP V + 4), (12, 2, F), (14, 2, I), (16, 2, D)] g)) f) := by
  have hg := G_lt Bs
  have hgr := Bs.1.grp hx
  have hgy := Bs.1.grp hy
  have s4 : ∀ g, (XD (XI τ g) f).1 4 = nI (vP V) := fun _ => R.1.2.1
  have s7 : ∀ g, (XD (XI τ g) f).1 7 = nI (vQ V) := fun _ => R.1.2.2.2.2.1
  have bg : ∀ g z, fMX12_begin_0 nb (nI z) (XD (XI τ g) f) = some (nI (1 + z * vP V), XD (XI τ g) f) := fun g z => begin_M nb (s4 g) z
  generalize hX : x * vP V = X at *
  generalize hY : y * vP V = Y at *
  have bx : ∀ g, fMX12_begin_0 nb (nI x) (XD (XI τ g) f) = some (nI (1 + X), XD (XI τ g) f) := fun g => by rw [bg, hX]
  have by' : ∀ g, fMX12_begin_0 nb (nI y) (XD (XI τ g) f) = some (nI (1 + Y), XD (XI τ g) f) := fun g => by rw [bg, hY]
  clear bg
  simp (disch := omega) only [fMX12_showGroup_0_221, s7, nI_ltI', nI_leI', nI_eqI, nI_clampI, if_neg, bx, by', obs, lit, litN, nI_add, nI_mul, put_i]
  rfl
set_option maxRecDepth 4096 in
theorem sup_M {nb : Nat} {V : VV} (Bs : Bas nb V) (h4 : ∀ i, vkd V i < 4) {τ : XS} {f g : Nat → Nat} (R : RM nb V τ f) {x F I D : Nat} (hx : x < vQ V) (hF : vFB V x = nfb V) (hI : vFI V x = nfi V) (K : (Int32 × Int32 × Int32 × Int32 × Int32 × XS) → Option XS) :
    fMX12_showGroup_0_221 nb K (nI x) (nI F) (nI I) (nI D) (nI (vQ V)) (XD (XI τ g) f) = some (XD (XI τ (wrs (1024 * (1 + x * vP V)) (supF nb V x) g)) f) := by
  have hg := G_lt Bs
  have hgr := Bs.1.grp hx
  have s4 : ∀ g, (XD (XI τ g) f).1 4 = nI (vP V) := fun _ => R.1.2.1
  have s5 : ∀ g, (XD (XI τ g) f).1 5 = nI (vG V) := fun _ => R.1.2.2.1
  have s7 : ∀ g, (XD (XI τ g) f).1 7 = nI (vQ V) := fun _ => R.1.2.2.2.2.1
  have s8 : ∀ g, (XD (XI τ g) f).1 8 = nI (vI V) := fun _ => R.1.2.2.2.2.2
  have bg : ∀ g, fMX12_begin_0 nb (nI x) (XD (XI τ g) f) = some (nI (1 + x * vP V), XD (XI τ g) f) := fun g => begin_M nb (s4 g) x
  have fb : ∀ g, fMX12_freeBlocks_0 nb (XD (XI τ g) f) = some (nI (nfb V), XD (XI τ g) f) := fun g => freeB_M Bs (RM_XI R g)
  have fi : ∀ g, fMX12_freeInodes_0 nb (XD (XI τ g) f) = some (nI (nfi V), XD (XI τ g) f) := fun g => freeI_M Bs (RM_XI R g) h4
  unfold supF
  rw [hF, hI]
  generalize hX : x * vP V = X at *
  simp (disch := omega) only [fMX12_showGroup_0_221, s7, s4, s5, s8, nI_ltI', nI_leI', nI_eqI, nI_clampI, if_pos, bg, fb, fi, obs, lit, litN, litL, nI_add, nI_mul, put_i, put_n]
  rfl
set_option maxRecDepth 4096 in
theorem grp_M {nb : Nat} {V : VV} (Bs : Bas nb V) (h4 : ∀ i, vkd V i < 4) (CB : CntB V) (CI : CntI V) (CD : CntD V) {τ : XS} {f g0 : Nat → Nat} (R : RM nb V τ f) (Z : Zr nb V g0) {x : Nat} (hx : x < vQ V) :
    ∃ g', Adv nb V g0 g' ∧ (∀ r o, r < 4 → r ≠ 1 → o < 1024 → g' (1024 * (1 + x * vP V + r) + o) = TT nb V (1024 * (1 + x * vP V + r) + o)) ∧ (∀ y o, y < vQ V → o < 32 → g' (1024 * (1 + y * vP V + 1) + (32 * x + o)) = TT nb V (1024 * (1 + y * vP V + 1) + (32 * x + o))) ∧ fMX12_showGroup_0 nb (nI x) (XD (XI τ g0) f) = some (XD (XI τ g') f) := by
  have hg := G_lt Bs
  have hgr := Bs.1.grp hx
  obtain ⟨g1, A1, c1, ex⟩ := map_M Bs h4 R Z hx
  have key : ∃ g', (∃ g2, g' = wrs (1024 * (1 + x * vP V)) (supF nb V x) g2 ∧ Adv nb V g1 g2 ∧ ∀ y o, y < vQ V → o < 32 → g2 (1024 * (1 + y * vP V + 1) + (32 * x + o)) = TT nb V (1024 * (1 + y * vP V + 1) + (32 * x + o))) ∧ ∀ u : Unit, lfix ((fun _ k221 t => fMX12_showGroup_0_221 nb k221 t.1 t.2.1 t.2.2.1 t.2.2.2.1 t.2.2.2.2.1 t.2.2.2.2.2) u) FU (nI x, nI (nfbg V x), nI (nfig V x), nI (ndcg V x), nI 0, XD (XI τ g1) f) = some (XD (XI τ g') f) := by
    have q := lfor (κ := Unit) (fun _ k221 t => fMX12_showGroup_0_221 nb k221 t.1 t.2.1 t.2.2.1 t.2.2.2.1 t.2.2.2.2.1 t.2.2.2.2.2) (fun y (g : Nat → Nat) => (nI x, nI (nfbg V x), nI (nfig V x), nI (ndcg V x), nI y, XD (XI τ g) f)) (fun _ g => some (XD (XI τ (wrs (1024 * (1 + x * vP V)) (supF nb V x) g)) f)) (vQ V) (fun k g => Adv nb V g1 g ∧ ∀ y o, y < k → o < 32 → g (1024 * (1 + y * vP V + 1) + (32 * x + o)) = TT nb V (1024 * (1 + y * vP V + 1) + (32 * x + o))) ?_ ?_ 0 g1 FU (Nat.zero_le _) ⟨Adv_rfl A1.1, fun y o hy => by omega⟩ (by unfold FU; omega)
    · obtain ⟨g2, h1, h2⟩ := q
      exact ⟨_, ⟨g2, rfl, h1.1, h1.2⟩, h2⟩
    · rintro y g hy ⟨a1, a2⟩
      have hgy := Bs.1.grp hy
      have hT : ∀ o, o < 32 → TT nb V (1024 * (1 + y * vP V + 1) + (32 * x + o)) = fld (dscF V y x) o := fun o ho => by
        rw [TT_b _ (by omega), img_fx Bs hy (by omega), fx_1, if_pos (by omega), show (32 * x + o) / 32 = x by omega, show (32 * x + o) % 32 = o by omega, Nat.mod_eq_of_lt (fld_lt _ _)]
      have hL : dscF V y x = [(0, 4, 1 + x * vP V + 2), (4, 4, 1 + x * vP V + 3), (8, 4, 1 + x * vP V + 4), (12, 2, nfbg V x), (14, 2, nfig V x), (16, 2, ndcg V x)] := by
        unfold dscF; rw [(CB y hy).2 x hx, (CI y hy).2 x hx, CD y hy x hx]
      have hb : ∀ q ∈ dscF V y x, q.1 + q.2.1 ≤ 32 := by unfold dscF; simp
      obtain ⟨b1, b2⟩ := Adv_wrs (nb := nb) (V := V) (base := 1024 * (1 + y * vP V + 1) + 32 * x) (dscF V y x) g a1.1 (fun q hq => by have := hb q hq; omega) (fun q hq j hj => by
        have := hb q hq
        rw [Nat.add_assoc, Nat.add_assoc, hT _ (by omega)]; exact fld_get _ (Srt_dsc V y x) q hq j hj)
      refine ⟨wrs (1024 * (1 + y * vP V + 1) + 32 * x) (dscF V y x) g, ⟨Adv_trans a1 b1, fun z o hz ho => ?_⟩, fun _ K => ?_⟩
      · by_cases c : z = y
        · subst c
          rcases fld_cov (dscF V z x) o with q | ⟨q, q1, q2⟩
          · rcases b1.1 (1024 * (1 + z * vP V + 1) + (32 * x + o)) (by omega) with e | e
            · exact e
            · rw [e, hT o ho, q]
          · have := b2 q q1 (o - q.1) (by omega)
            rw [show 1024 * (1 + z * vP V + 1) + 32 * x + q.1 + (o - q.1) = 1024 * (1 + z * vP V + 1) + (32 * x + o) by omega] at this
            exact this
        · have hz' : z < y := by omega
          have hgz := Bs.1.grp (x := z) (by omega)
          exact b1.2 _ (by omega) (a2 z o hz' ho)
      · rw [hL]; exact dsc_M Bs R hx hy K
    · rintro g ⟨a1, a2⟩ _ K
      exact sup_M Bs h4 R hx (CB x hx).1 (CI x hx).1 K
  obtain ⟨g', ⟨g2, rfl, A2, c2⟩, h2⟩ := key
  have hb : ∀ q ∈ supF nb V x, q.1 + q.2.1 ≤ 1024 := by unfold supF; simp
  have hT : ∀ o, o < 1024 → TT nb V (1024 * (1 + x * vP V) + o) = fld (supF nb V x) o := fun o ho => by
    have := img_fx Bs hx (r := 0) (o := o) (by omega)
    rw [Nat.add_zero] at this
    rw [TT_b _ ho, this, fx_0, Nat.mod_eq_of_lt (fld_lt _ _)]
  obtain ⟨b1, b2⟩ := Adv_wrs (nb := nb) (V := V) (base := 1024 * (1 + x * vP V)) (supF nb V x) g2 A2.1 (fun q hq => by have := hb q hq; omega) (fun q hq j hj => by
    have := hb q hq
    rw [Nat.add_assoc, hT _ (by omega)]; exact fld_get _ (Srt_sup nb V x) q hq j hj)
  refine ⟨_, Adv_trans A1 (Adv_trans A2 b1), fun r o hr hr1 ho => ?_, fun y o hy ho => ?_, ?_⟩
  · by_cases c : r = 0
    · subst c
      rw [Nat.add_zero]
      rcases fld_cov (supF nb V x) o with q | ⟨q, q1, q2⟩
      · rcases b1.1 (1024 * (1 + x * vP V) + o) (by omega) with e | e
        · exact e
        · rw [e, hT o ho, q]
      · have := b2 q q1 (o - q.1) (by omega)
        rw [show 1024 * (1 + x * vP V) + q.1 + (o - q.1) = 1024 * (1 + x * vP V) + o by omega] at this
        exact this
    · have h23 : r = 2 ∨ r = 3 := by omega
      refine b1.2 _ (by omega) (A2.2 _ (by omega) ?_)
      rcases h23 with q | q <;> subst q
      · exact (c1 o ho).1
      · exact (c1 o ho).2
  · have hgy := Bs.1.grp hy
    exact b1.2 _ (by omega) (c2 y o hy ho)
  · rw [ex]; exact h2 ()
