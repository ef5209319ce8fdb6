theorem fx_0 (nb : Nat) (V : VV) (x o b : Nat) : fx nb V x 0 o b = fld (supF nb V x) o := rfl
theorem fx_1 (nb : Nat) (V : VV) (x o b : Nat) : fx nb V x 1 o b = if o / 32 < vQ V then fld (dscF V x (o / 32)) (o % 32) else 0 := rfl
theorem fx_2 (nb : Nat) (V : VV) (x o b : Nat) : fx nb V x 2 o b = bits8 (fun t => ub V x (8 * o + t)) := rfl
theorem fx_3 (nb : Nat) (V : VV) (x o b : Nat) : fx nb V x 3 o b = bits8 (fun t => ui V x (8 * o + t)) := rfl
theorem fx_4 (nb : Nat) (V : VV) (x r o b : Nat) (h : 4 ≤ r) : fx nb V x r o b = ino V (inoX (vP V) (vG V) b o) (o % 128) := by
  rw [fx, if_neg (by omega), if_neg (by omega), if_neg (by omega), if_neg (by omega)]
theorem DX_sup {nb : Nat} {V V' : VV} {d : Nat → Nat} {y k s n v v0 : Nat} (B : Bas nb V) (D : DX nb V d) (hP : vP V' = vP V) (ht : vot V' = vot V)
    (hL : (supF nb V y)[k]? = some (s, n, v0)) (hd : ∀ q ∈ (supF nb V y).take k, q.1 + q.2.1 ≤ s ∨ s + n ≤ q.1) (hn : s + n ≤ 1024)
    (hs : supF nb V' y = (supF nb V y).set k (s, n, v)) (ho : ∀ x, x ≠ y → supF nb V' x = supF nb V x)
    (hf : ∀ x r o b, r ≠ 0 → fx nb V' x r o b = fx nb V x r o b) (hg : ∀ b o, vot V b ≠ 2 → img nb V' b o = img nb V b o) : DX nb V' (wrN d (1024 * (1 + y * vP V) + s) n v) := by
  refine DX_wr D (fun b _ h => by rw [← ht]; exact h) (fun b o hb hoo h2 => ?_)
  rw [ht] at h2
  by_cases h3 : vot V b = 2
  · have hb1 : 1 ≤ b := by
      rcases Nat.eq_zero_or_pos b with h | h
      · rw [h, B.2.2.1] at h3; omega
      · exact h
    obtain ⟨hx, he, hr⟩ := B.1.div hb1 hb
    have hr2 := (B.2.1 b hb1 hb).mpr h3
    rw [img, ht, if_pos h3, hP, img, if_pos h3]
    by_cases h4 : (b - 1) % vP V = 0
    · rw [h4, fx, if_pos rfl, fx, if_pos rfl]
      by_cases h5 : (b - 1) / vP V = y
      · rw [h5, hs, fld_set _ k s n v v0 o hL hd]
        rw [h5] at he
        have e1 : b = 1 + y * vP V := by omega
        subst e1
        by_cases h6 : s ≤ o ∧ o < s + n
        · rw [if_pos h6, if_pos (by omega), show 1024 * (1 + y * vP V) + o - (1024 * (1 + y * vP V) + s) = o - s from by omega]
        · rw [if_neg h6, if_neg (by omega)]
      · rw [ho _ h5, if_neg]
        intro h7
        apply h5
        have e2 : b = 1 + y * vP V := by omega
        have := B.1.blk (x := y) (r := 0) (by omega)
        rw [e2, show 1 + y * vP V - 1 = y * vP V + 0 from by omega, this.1]
    · rw [hf _ _ _ _ h4, if_neg]
      intro h7
      apply h4
      have e2 : b = 1 + y * vP V := by omega
      have := B.1.blk (x := y) (r := 0) (by omega)
      rw [e2, show 1 + y * vP V - 1 = y * vP V + 0 from by omega, this.2]
  · rw [hg b o h3, if_neg]
    intro h7
    apply h3
    have e2 : b = 1 + y * vP V := by omega
    have h8 := B.1.blk (x := y) (r := 0) (by have := B.1.2.2.2.2.2.2.2.1; omega)
    refine (B.2.1 b (by omega) hb).mp ?_
    rw [e2, show 1 + y * vP V - 1 = y * vP V + 0 from by omega, h8.2]; omega
theorem DX_FB {nb : Nat} {V : VV} {d : Nat → Nat} (B : Bas nb V) (D : DX nb V d) (y v : Nat) : DX nb (setA V 12 y v) (wrN d (1024 * (1 + y * vP V) + 12) 4 v) := by
  refine DX_sup (k := 2) (v0 := vFB V y) B D rfl rfl rfl (by simp [supF]) (by omega) ?_ ?_ ?_ ?_
  · simp [supF, vP, vQ, vG, vI, vot, voi, vok, vkd, vsz, vlk, vmn, vrn, vtw, vsg, vdb, vpar, vFB, vFI, vdat, vtm, vent, vdp, vbl, vrw, vfb, vfi, vdc, ves, setA, setT, setS, setR, setE, va_up, up1]
  · intro x hx; simp [supF, vP, vQ, vG, vI, vot, voi, vok, vkd, vsz, vlk, vmn, vrn, vtw, vsg, vdb, vpar, vFB, vFI, vdat, vtm, vent, vdp, vbl, vrw, vfb, vfi, vdc, ves, setA, setT, setS, setR, setE, va_up, up1, hx]
  · intro x r o b hr; rw [fx, fx, if_neg hr, if_neg hr]; rfl
  · intro b o h; rw [img, img, if_neg h, if_neg (show ¬ vot (setA V 12 y v) b = 2 from h)]; rfl
theorem DX_FI {nb : Nat} {V : VV} {d : Nat → Nat} (B : Bas nb V) (D : DX nb V d) (y v : Nat) : DX nb (setA V 13 y v) (wrN d (1024 * (1 + y * vP V) + 16) 4 v) := by
  refine DX_sup (k := 3) (v0 := vFI V y) B D rfl rfl rfl (by simp [supF]) (by omega) ?_ ?_ ?_ ?_
  · simp [supF, vP, vQ, vG, vI, vot, voi, vok, vkd, vsz, vlk, vmn, vrn, vtw, vsg, vdb, vpar, vFB, vFI, vdat, vtm, vent, vdp, vbl, vrw, vfb, vfi, vdc, ves, setA, setT, setS, setR, setE, va_up, up1]
  · intro x hx; simp [supF, vP, vQ, vG, vI, vot, voi, vok, vkd, vsz, vlk, vmn, vrn, vtw, vsg, vdb, vpar, vFB, vFI, vdat, vtm, vent, vdp, vbl, vrw, vfb, vfi, vdc, ves, setA, setT, setS, setR, setE, va_up, up1, hx]
  · intro x r o b hr; rw [fx, fx, if_neg hr, if_neg hr]; rfl
  · intro b o h; rw [img, img, if_neg h, if_neg (show ¬ vot (setA V 13 y v) b = 2 from h)]; rfl
-- the descriptors: copy c, row y
theorem DX_dsc {nb : Nat} {V V' : VV} {d : Nat → Nat} {c y k s n v v0 : Nat} (B : Bas nb V) (D : DX nb V d) (hc : c < vQ V) (hy : y < vQ V) (hP : vP V' = vP V) (hQ : vQ V' = vQ V) (ht : vot V' = vot V)
    (hL : (dscF V c y)[k]? = some (s, n, v0)) (hd : ∀ q ∈ (dscF V c y).take k, q.1 + q.2.1 ≤ s ∨ s + n ≤ q.1) (hn : s + n ≤ 32)
    (hs : dscF V' c y = (dscF V c y).set k (s, n, v)) (ho : ∀ x z, x ≠ c ∨ z ≠ y → dscF V' x z = dscF V x z)
    (hf : ∀ x r o b, r ≠ 1 → fx nb V' x r o b = fx nb V x r o b) (hg : ∀ b o, vot V b ≠ 2 → img nb V' b o = img nb V b o) : DX nb V' (wrN d (1024 * (1 + c * vP V + 1) + (32 * y + s)) n v) := by
  have hQ8 : vQ V ≤ 8 := B.1.2.2.2.2.1
  have hP2 : 12 + vG V / 8 ≤ vP V := B.1.2.2.2.2.2.2.2.1
  have h8 := B.1.blk (x := c) (r := 1) (by omega)
  have e8 : 1 + c * vP V + 1 - 1 = c * vP V + 1 := by omega
  refine DX_wr D (fun b _ h => by rw [← ht]; exact h) (fun b o hb hoo h2 => ?_)
  rw [ht] at h2
  have key : (1024 * (1 + c * vP V + 1) + (32 * y + s) ≤ 1024 * b + o ∧ 1024 * b + o < 1024 * (1 + c * vP V + 1) + (32 * y + s) + n) → b = 1 + c * vP V + 1 ∧ o / 32 = y ∧ s ≤ o % 32 ∧ o % 32 < s + n := by omega
  by_cases h3 : vot V b = 2
  · have hb1 : 1 ≤ b := by
      rcases Nat.eq_zero_or_pos b with h | h
      · rw [h, B.2.2.1] at h3; omega
      · exact h
    obtain ⟨hx, he, hr⟩ := B.1.div hb1 hb
    rw [img, ht, if_pos h3, hP, img, if_pos h3]
    by_cases h4 : (b - 1) % vP V = 1
    · rw [h4, fx_1, fx_1, hQ]
      by_cases h9 : o / 32 < vQ V
      · rw [if_pos h9, if_pos h9]
        by_cases h5 : (b - 1) / vP V = c ∧ o / 32 = y
        · rw [h5.1, h5.2, hs, fld_set _ k s n v v0 _ hL hd]
          rw [h5.1, h4] at he
          have e1 : b = 1 + c * vP V + 1 := by omega
          subst e1
          by_cases h6 : s ≤ o % 32 ∧ o % 32 < s + n
          · rw [if_pos h6, if_pos (by omega), show 1024 * (1 + c * vP V + 1) + o - (1024 * (1 + c * vP V + 1) + (32 * y + s)) = o % 32 - s from by omega]
          · rw [if_neg h6, if_neg (by omega)]
        · rw [ho _ _ (Decidable.not_and_iff_or_not.mp h5), if_neg]
          intro h7
          obtain ⟨rfl, h10, -⟩ := key h7
          rw [e8, h8.1] at h5
          exact h5 ⟨rfl, h10⟩
      · rw [if_neg h9, if_neg h9, if_neg]
        intro h7
        obtain ⟨_, h10, _⟩ := key h7
        omega
    · rw [hf _ _ _ _ h4, if_neg]
      intro h7
      obtain ⟨rfl, _⟩ := key h7
      rw [e8, h8.2] at h4
      exact h4 rfl
  · rw [hg b o h3, if_neg]
    intro h7
    obtain ⟨rfl, _⟩ := key h7
    exact h3 ((B.2.1 _ (by omega) hb).mp (by rw [e8, h8.2]; omega))
theorem DX_fb {nb : Nat} {V : VV} {d : Nat → Nat} (B : Bas nb V) (D : DX nb V d) {c y : Nat} (hc : c < vQ V) (hy : y < vQ V) (v : Nat) : DX nb (setT V 2 c y v) (wrN d (1024 * (1 + c * vP V + 1) + (32 * y + 12)) 2 v) := by
  refine DX_dsc (k := 3) (v0 := vfb V c y) B D hc hy rfl rfl rfl rfl (by simp [dscF]) (by omega) ?_ ?_ ?_ ?_
  · simp [dscF, vP, vQ, vG, vI, vot, voi, vok, vkd, vsz, vlk, vmn, vrn, vtw, vsg, vdb, vpar, vFB, vFI, vdat, vtm, vent, vdp, vbl, vrw, vfb, vfi, vdc, ves, setA, setT, setS, setR, setE, va_up, up1]
  · intro x z hx; simp only [dscF, vP, vQ, vG, vI, vot, voi, vok, vkd, vsz, vlk, vmn, vrn, vtw, vsg, vdb, vpar, vFB, vFI, vdat, vtm, vent, vdp, vbl, vrw, vfb, vfi, vdc, ves, setA, setT, setS, setR, setE, va_up, up1]; rcases hx with h | h <;> by_cases h' : x = c <;> simp_all [va_up, up1]
  · intro x r o b hr; rw [fx, fx]; simp only [if_neg hr]; rfl
  · intro b o h; rw [img, img, if_neg h, if_neg (show ¬ vot (setT V 2 c y v) b = 2 from h)]; rfl
theorem DX_fi {nb : Nat} {V : VV} {d : Nat → Nat} (B : Bas nb V) (D : DX nb V d) {c y : Nat} (hc : c < vQ V) (hy : y < vQ V) (v : Nat) : DX nb (setT V 3 c y v) (wrN d (1024 * (1 + c * vP V + 1) + (32 * y + 14)) 2 v) := by
  refine DX_dsc (k := 4) (v0 := vfi V c y) B D hc hy rfl rfl rfl rfl (by simp [dscF]) (by omega) ?_ ?_ ?_ ?_
  · simp [dscF, vP, vQ, vG, vI, vot, voi, vok, vkd, vsz, vlk, vmn, vrn, vtw, vsg, vdb, vpar, vFB, vFI, vdat, vtm, vent, vdp, vbl, vrw, vfb, vfi, vdc, ves, setA, setT, setS, setR, setE, va_up, up1]
  · intro x z hx; simp only [dscF, vP, vQ, vG, vI, vot, voi, vok, vkd, vsz, vlk, vmn, vrn, vtw, vsg, vdb, vpar, vFB, vFI, vdat, vtm, vent, vdp, vbl, vrw, vfb, vfi, vdc, ves, setA, setT, setS, setR, setE, va_up, up1]; rcases hx with h | h <;> by_cases h' : x = c <;> simp_all [va_up, up1]
  · intro x r o b hr; rw [fx, fx]; simp only [if_neg hr]; rfl
  · intro b o h; rw [img, img, if_neg h, if_neg (show ¬ vot (setT V 3 c y v) b = 2 from h)]; rfl
theorem DX_dc {nb : Nat} {V : VV} {d : Nat → Nat} (B : Bas nb V) (D : DX nb V d) {c y : Nat} (hc : c < vQ V) (hy : y < vQ V) (v : Nat) : DX nb (setT V 4 c y v) (wrN d (1024 * (1 + c * vP V + 1) + (32 * y + 16)) 2 v) := by
  refine DX_dsc (k := 5) (v0 := vdc V c y) B D hc hy rfl rfl rfl rfl (by simp [dscF]) (by omega) ?_ ?_ ?_ ?_
  · simp [dscF, vP, vQ, vG, vI, vot, voi, vok, vkd, vsz, vlk, vmn, vrn, vtw, vsg, vdb, vpar, vFB, vFI, vdat, vtm, vent, vdp, vbl, vrw, vfb, vfi, vdc, ves, setA, setT, setS, setR, setE, va_up, up1]
  · intro x z hx; simp only [dscF, vP, vQ, vG, vI, vot, voi, vok, vkd, vsz, vlk, vmn, vrn, vtw, vsg, vdb, vpar, vFB, vFI, vdat, vtm, vent, vdp, vbl, vrw, vfb, vfi, vdc, ves, setA, setT, setS, setR, setE, va_up, up1]; rcases hx with h | h <;> by_cases h' : x = c <;> simp_all [va_up, up1]
  · intro x r o b hr; rw [fx, fx]; simp only [if_neg hr]; rfl
  · intro b o h; rw [img, img, if_neg h, if_neg (show ¬ vot (setT V 4 c y v) b = 2 from h)]; rfl
