set_option maxRecDepth 4096 in
theorem num_zero {p : Nat → Nat} {n m : Nat} (h : n ≤ m) (h0 : ∀ j, n ≤ j → j < m → p j = 0) : num p m = num p n := by
  have := num_ext (p := p) (n := n) (m - n) (fun j h1 h2 => h0 j h1 (by omega))
  rw [show n + (m - n) = m by omega] at this; exact this
set_option maxRecDepth 4096 in
theorem ub_T {nb : Nat} {V : VV} (B : Bas nb V) {x : Nat} (hx : x < vQ V) {m : Nat} (hm : m < 1024) : TT nb V (1024 * (1 + x * vP V + 2) + m) = bits8 (fun t => ub V x (8 * m + t)) := by
  have hg := G_lt B
  rw [TT_b _ hm, img_fx B hx (by omega), fx_2, Nat.mod_eq_of_lt (bits8_lt (fun t => ub_le V x _))]
set_option maxRecDepth 4096 in
theorem ui_T {nb : Nat} {V : VV} (B : Bas nb V) {x : Nat} (hx : x < vQ V) {m : Nat} (hm : m < 1024) : TT nb V (1024 * (1 + x * vP V + 3) + m) = bits8 (fun t => ui V x (8 * m + t)) := by
  have hg := G_lt B
  rw [TT_b _ hm, img_fx B hx (by omega), fx_3, Nat.mod_eq_of_lt (bits8_lt (fun t => ui_le V x _))]
set_option maxRecDepth 4096 in
theorem map_M {nb : Nat} {V : VV} (Bs : Bas nb V) (h4 : ∀ i, vkd V i < 4) {τ : XS} {f g0 : Nat → Nat} (R : RM nb V τ f) (Z : Zr nb V g0) {x : Nat} (hx : x < vQ V) :
    ∃ g1, Adv nb V g0 g1 ∧ (∀ o, o < 1024 → g1 (1024 * (1 + x * vP V + 2) + o) = TT nb V (1024 * (1 + x * vP V + 2) + o) ∧ g1 (1024 * (1 + x * vP V + 3) + o) = TT nb V (1024 * (1 + x * vP V + 3) + o)) ∧
      fMX12_showGroup_0 nb (nI x) (XD (XI τ g0) f) = lfix (fun k221 t => fMX12_showGroup_0_221 nb k221 t.1 t.2.1 t.2.2.1 t.2.2.2.1 t.2.2.2.2.1 t.2.2.2.2.2) FU (nI x, nI (nfbg V x), nI (nfig V x), nI (ndcg V x), nI 0, XD (XI τ g1) f) := by
  have hg := G_lt Bs
  have hgr := Bs.1.grp hx
  have hT2 : ∀ m, m < 1024 → TT nb V (1024 * (1 + x * vP V + 2) + m) = bits8 (fun t => ub V x (8 * m + t)) := fun m hm => ub_T Bs hx hm
  have hT3 : ∀ m, m < 1024 → TT nb V (1024 * (1 + x * vP V + 3) + m) = bits8 (fun t => ui V x (8 * m + t)) := fun m hm => ui_T Bs hx hm
  have u2 := ub_le V x
  have u3 := ui_le V x
  generalize hB : 1 + x * vP V + 2 = b at *
  have hB3 : 1 + x * vP V + 3 = b + 1 := by omega
  rw [hB3] at hT3 ⊢
  have key : ∃ g1, g1 = gm (TT nb V) (gm (TT nb V) g0 b (ub V x) 8192) (b + 1) (ui V x) 8192 ∧ ∀ u : Unit, lfix ((fun _ k23 t => fMX12_showGroup_0_23 nb k23 t.1 t.2.1 t.2.2.1 t.2.2.2.1 t.2.2.2.2.1 t.2.2.2.2.2.1 t.2.2.2.2.2.2) u) FU (nI x, nI (1024 * b), nI 0, nI 0, nI 0, nI 0, XD (XI τ g0) f) = (fun (_ : Unit) g1 => lfix (fun k221 t => fMX12_showGroup_0_221 nb k221 t.1 t.2.1 t.2.2.1 t.2.2.2.1 t.2.2.2.2.1 t.2.2.2.2.2) FU (nI x, nI (nfbg V x), nI (nfig V x), nI (ndcg V x), nI 0, XD (XI τ g1) f)) u g1 := by
    refine lfor (κ := Unit) (fun _ k23 t => fMX12_showGroup_0_23 nb k23 t.1 t.2.1 t.2.2.1 t.2.2.2.1 t.2.2.2.2.1 t.2.2.2.2.2.1 t.2.2.2.2.2.2) (fun k (g : Nat → Nat) => (nI x, nI (1024 * b), nI (num (fun j => 1 - ub V x j) k), nI (num (fun j => 1 - ui V x j) k), nI (num (fun j => if j < vG V then pdc V (x * vG V + j + 1) else 0) k), nI k, XD (XI τ g) f)) (fun _ g1 => lfix (fun k221 t => fMX12_showGroup_0_221 nb k221 t.1 t.2.1 t.2.2.1 t.2.2.2.1 t.2.2.2.2.1 t.2.2.2.2.2) FU (nI x, nI (nfbg V x), nI (nfig V x), nI (ndcg V x), nI 0, XD (XI τ g1) f)) 8192 (fun k g => g = gm (TT nb V) (gm (TT nb V) g0 b (ub V x) k) (b + 1) (ui V x) k) ?_ ?_ 0 g0 FU (Nat.zero_le _) ?_ (by unfold FU; omega)
    · rintro k g hk rfl
      refine ⟨_, rfl, fun _ K => ?_⟩
      have R1 := RM_XI R (gm (TT nb V) (gm (TT nb V) g0 b (ub V x) k) (b + 1) (ui V x) k)
      have R2 := RM_XI R (gm (TT nb V) (gm (TT nb V) g0 b (ub V x) (k + 1)) (b + 1) (ui V x) (k + 1))
      have q1 := sg23 (s := XD (XI τ (gm (TT nb V) (gm (TT nb V) g0 b (ub V x) k) (b + 1) (ui V x) k)) f) (m := nI (1024 * b)) (c1 := nI (num (fun j => 1 - ub V x j) k)) (c2 := nI (num (fun j => 1 - ui V x j) k)) (c3 := nI (num (fun j => if j < vG V then pdc V (x * vG V + j + 1) else 0) k)) Bs hx hk R1.1.2.1 R1.1.2.2.2.2.1 (fun b' h1 h2 => by rw [XD_k _ _ _ _ (by omega)]; exact R1.2.1 b' h1 h2) K
      have q2 := (sg62 (s := XD (XI τ (gm (TT nb V) (gm (TT nb V) g0 b (ub V x) k) (b + 1) (ui V x) k)) f) (m := 1024 * b) (u := ub V x k) (c1 := num (fun j => 1 - ub V x j) k) (c2 := num (fun j => 1 - ui V x j) k) (c3 := num (fun j => if j < vG V then pdc V (x * vG V + j + 1) else 0) k) Bs h4 hx hk R1.1.2.2.1 (fun i hi => by rw [XD_k _ _ _ _ (by omega)]; exact (R1.2.2.1 i hi).1) K).1
      have q3 := (sg62 (s := XD (XI τ (gm (TT nb V) (gm (TT nb V) g0 b (ub V x) (k + 1)) (b + 1) (ui V x) (k + 1))) f) (m := 1024 * b) (u := 0) (c1 := num (fun j => 1 - ub V x j) k + (1 - ub V x k)) (c2 := num (fun j => 1 - ui V x j) k + (1 - ui V x k)) (c3 := num (fun j => if j < vG V then pdc V (x * vG V + j + 1) else 0) k) Bs h4 hx hk R2.1.2.2.1 (fun i hi => by rw [XD_k _ _ _ _ (by omega)]; exact (R2.2.2.1 i hi).1) K).2
      have e1 : (if ub V x k = 0 then gm (TT nb V) (gm (TT nb V) g0 b (ub V x) k) (b + 1) (ui V x) k else wr1 (gm (TT nb V) (gm (TT nb V) g0 b (ub V x) k) (b + 1) (ui V x) k) (1024 * b + k / 8) (orv (gm (TT nb V) (gm (TT nb V) g0 b (ub V x) k) (b + 1) (ui V x) k (1024 * b + k / 8)) (k % 8))) = gm (TT nb V) (gm (TT nb V) g0 b (ub V x) (k + 1)) (b + 1) (ui V x) k := by
        rw [gm_comm (b := b) (b' := b + 1) (by omega), gm_comm (b := b) (b' := b + 1) (by omega)]
        exact gm_step u2 hT2 hk
      have e2 := gm_step (g0 := gm (TT nb V) g0 b (ub V x) (k + 1)) u3 hT3 hk
      rw [show 1024 * (b + 1) + k / 8 = 1024 * b + 1024 + k / 8 by omega] at e2
      have lA : gm (TT nb V) (gm (TT nb V) g0 b (ub V x) k) (b + 1) (ui V x) k (1024 * b + k / 8) < 256 := by
        rw [gm_comm (b := b) (b' := b + 1) (by omega)]; exact gm_lt u2 hT2 k (by omega)
      have lB : gm (TT nb V) (gm (TT nb V) g0 b (ub V x) (k + 1)) (b + 1) (ui V x) k (1024 * b + 1024 + k / 8) < 256 := by
        rw [show 1024 * b + 1024 + k / 8 = 1024 * (b + 1) + k / 8 by omega]; exact gm_lt u3 hT3 k (by omega)
      have q4 := sg97 (nb := nb) (τ := τ) (f := f) (x := x) (c1 := num (fun j => 1 - ub V x j) k) (c2 := num (fun j => 1 - ui V x j) k) (c3 := num (fun j => if j < vG V then pdc V (x * vG V + j + 1) else 0) k) K hk (by omega) (u2 k) (u3 k) lA lB e1 e2
      exact q1.trans (q2.trans (q4.trans q3))
    · rintro g rfl _ K
      have n1 : num (fun j => 1 - ub V x j) 8192 = nfbg V x := by
        rw [num_zero (n := vP V) (by omega) (fun j h1 h2 => by show 1 - ub V x j = 0; unfold ub; rw [if_pos (.inl h1)])]
        exact num_congr (fun j hj => by
          show 1 - ub V x j = pfb V (1 + x * vP V + j)
          unfold ub pfb
          by_cases c : vot V (1 + x * vP V + j) = 0
          · rw [if_neg (by omega), if_pos c]
          · rw [if_pos (.inr c), if_neg c])
      have n2 : num (fun j => 1 - ui V x j) 8192 = nfig V x := by
        rw [num_zero (n := vG V) (by omega) (fun j h1 h2 => by show 1 - ui V x j = 0; unfold ui; rw [if_pos (.inl h1)])]
        exact num_congr (fun j hj => by
          show 1 - ui V x j = pfi V (x * vG V + j + 1)
          unfold ui pfi
          by_cases c : vkd V (x * vG V + j + 1) = 0
          · rw [if_neg (by omega), if_pos c]
          · rw [if_pos (.inr c), if_neg c])
      have n3 : num (fun j => if j < vG V then pdc V (x * vG V + j + 1) else 0) 8192 = ndcg V x := by
        rw [num_zero (n := vG V) (by omega) (fun j h1 h2 => if_neg (by omega))]
        exact num_congr (fun j hj => if_pos hj)
      show fMX12_showGroup_0_23 nb K (nI x) (nI (1024 * b)) (nI (num (fun j => 1 - ub V x j) 8192)) (nI (num (fun j => 1 - ui V x j) 8192)) (nI (num (fun j => if j < vG V then pdc V (x * vG V + j + 1) else 0) 8192)) (nI 8192) _ = _
      rw [n1, n2, n3]
      unfold fMX12_showGroup_0_23
      rw [if_pos (by decide +kernel)]; rfl
    · rw [gm_0 (fun a ha => Z a (by omega)), gm_0 (fun a ha => Z a (by omega))]
  obtain ⟨g1, rfl, h2⟩ := key
  have full : ∀ a, gm (TT nb V) (gm (TT nb V) g0 b (ub V x) 8192) (b + 1) (ui V x) 8192 a = if a / 1024 = b + 1 then TT nb V a else if a / 1024 = b then TT nb V a else g0 a := fun a => by
    rw [gm_full hT3, gm_full hT2]
  refine ⟨gm (TT nb V) (gm (TT nb V) g0 b (ub V x) 8192) (b + 1) (ui V x) 8192, ⟨fun a ha => ?_, fun a ha e => ?_⟩, fun o ho => ⟨?_, ?_⟩, ?_⟩
  · rw [full]
    split
    · exact .inl rfl
    · split
      · exact .inl rfl
      · exact Z a ha
  · rw [full]
    split
    · rfl
    · split
      · rfl
      · exact e
  · rw [full, if_neg (by omega), if_pos (by omega)]
  · rw [full, if_pos (by omega)]
  · have bg := begin_M nb (s := XD (XI τ g0) f) (p := vP V) R.1.2.1 x
    have h3 := h2 ()
    simp only [fMX12_showGroup_0, fMX12_showGroup_0_0, bg, obs, lit, litN, nI_add, nI_mul, hB]
    exact h3
