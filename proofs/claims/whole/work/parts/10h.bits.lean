theorem bits8_congr {f g : Nat → Nat} (h : ∀ t, t < 8 → f t = g t) : bits8 f = bits8 g := by
  unfold bits8
  rw [h 0 (by omega), h 1 (by omega), h 2 (by omega), h 3 (by omega), h 4 (by omega), h 5 (by omega), h 6 (by omega), h 7 (by omega)]
theorem bits8_lt {f : Nat → Nat} (h : ∀ t, f t ≤ 1) : bits8 f < 256 := by
  unfold bits8
  have := h 0; have := h 1; have := h 2; have := h 3; have := h 4; have := h 5; have := h 6; have := h 7
  omega
theorem ub_le (V : VV) (x k : Nat) : ub V x k ≤ 1 := by unfold ub; split <;> omega
theorem ui_le (V : VV) (x k : Nat) : ui V x k ≤ 1 := by unfold ui; split <;> omega
theorem byt0 {v : Nat} (h : v < 256) : byt v 0 = v := by simp [byt, Nat.mod_eq_of_lt h]
theorem lt8 {t : Nat} (h : t < 8) : t = 0 ∨ t = 1 ∨ t = 2 ∨ t = 3 ∨ t = 4 ∨ t = 5 ∨ t = 6 ∨ t = 7 := by omega
theorem bits8_bit {f : Nat → Nat} (h : ∀ t, f t ≤ 1) {t : Nat} (ht : t < 8) : bits8 f / 2 ^ t % 2 = f t := by
  unfold bits8
  have := h 0; have := h 1; have := h 2; have := h 3; have := h 4; have := h 5; have := h 6; have := h 7
  rcases lt8 ht with rfl | rfl | rfl | rfl | rfl | rfl | rfl | rfl <;> simp only [Nat.reducePow] <;> omega
theorem bits8_set {f : Nat → Nat} (v : Nat) {t : Nat} (ht : t < 8) : bits8 (up1 f t v) + f t * 2 ^ t = bits8 f + v * 2 ^ t := by
  rcases lt8 ht with rfl | rfl | rfl | rfl | rfl | rfl | rfl | rfl <;> simp [bits8, up1] <;> omega
theorem bit_or {a t : Nat} (ha : a < 256) (ht : t < 8) : nI a ||| nI (2 ^ t) = nI (a + (1 - a / 2 ^ t % 2) * 2 ^ t) := by
  rw [nI_or]; congr 1
  exact (by decide +kernel : ∀ a, a < 256 → ∀ t, t < 8 → a ||| 2 ^ t = a + (1 - a / 2 ^ t % 2) * 2 ^ t) a ha t ht
theorem bit_clr {a t : Nat} (ha : a < 256) (ht : t < 8) : nI a &&& (nI (2 ^ t) ^^^ -nI 1) = nI (a - a / 2 ^ t % 2 * 2 ^ t) :=
  (by decide +kernel : ∀ a, a < 256 → ∀ t, t < 8 → nI a &&& (nI (2 ^ t) ^^^ -nI 1) = nI (a - a / 2 ^ t % 2 * 2 ^ t)) a ha t ht
theorem bit_get {a t : Nat} (ha : a < 256) (ht : t < 8) : (nI a >>> nI t) &&& nI 1 = nI (a / 2 ^ t % 2) :=
  (by decide +kernel : ∀ a, a < 256 → ∀ t, t < 8 → (nI a >>> nI t) &&& nI 1 = nI (a / 2 ^ t % 2)) a ha t ht
theorem DX_bitB {nb : Nat} {V : VV} {d : Nat → Nat} (B : Bas nb V) (D : DX nb V d) {b0 t : Nat} (h1 : 1 ≤ b0) (h2 : b0 < nb) (h3 : vot V b0 ≠ 2) (ht : t < 2) :
    DX nb (setA V 0 b0 t) (wrN d (1024 * (1 + (b0 - 1) / vP V * vP V + 2) + (b0 - 1) % vP V / 8) 1 (bits8 (fun u => ub (setA V 0 b0 t) ((b0 - 1) / vP V) (8 * ((b0 - 1) % vP V / 8) + u)))) := by
  obtain ⟨hx, he, hr⟩ := B.1.div h1 h2
  have hP : vP V ≤ 256 := by have := B.1.2.2.1; omega
  have hP2 : 12 + vG V / 8 ≤ vP V := B.1.2.2.2.2.2.2.2.1
  have hot : ∀ b, b ≠ b0 → vot (setA V 0 b0 t) b = vot V b := fun b h => by simp [vP, vQ, vG, vI, vot, voi, vok, vkd, vsz, vlk, vmn, vrn, vtw, vsg, vdb, vpar, vFB, vFI, vdat, vtm, vent, vdp, vbl, vrw, vfb, vfi, vdc, ves, setA, setT, setS, setR, setE, va_up, up1, h]
  have hot0 : vot (setA V 0 b0 t) b0 = t := by simp [vP, vQ, vG, vI, vot, voi, vok, vkd, vsz, vlk, vmn, vrn, vtw, vsg, vdb, vpar, vFB, vFI, vdat, vtm, vent, vdp, vbl, vrw, vfb, vfi, vdc, ves, setA, setT, setS, setR, setE, va_up, up1]
  have hne : ∀ b, 2 ≤ vot (setA V 0 b0 t) b → b ≠ b0 := fun b h e => by rw [e, hot0] at h; omega
  refine DX_wr D (fun b _ h => by rw [← hot b (hne b h)]; exact h) (fun b o hb hoo h => ?_)
  have hn := hne b h
  rw [hot b hn] at h
  have e0 : 1 + (b0 - 1) / vP V * vP V + 2 - 1 = (b0 - 1) / vP V * vP V + 2 := by omega
  have h8 := B.1.blk (x := (b0 - 1) / vP V) (r := 2) (by omega)
  have hg := B.1.grp hx
  have hfix : vot V (1 + (b0 - 1) / vP V * vP V + 2) = 2 := (B.2.1 _ (by omega) (by omega)).mp (by rw [e0, h8.2]; omega)
  by_cases h5 : vot V b = 2
  · have hb1 : 1 ≤ b := by
      rcases Nat.eq_zero_or_pos b with h | h
      · rw [h, B.2.2.1] at h5; omega
      · exact h
    obtain ⟨hx', he', hr'⟩ := B.1.div hb1 hb
    rw [img, hot b hn, if_pos h5, img, if_pos h5]
    show fx nb (setA V 0 b0 t) ((b - 1) / vP V) ((b - 1) % vP V) o b = _
    by_cases h6 : (b - 1) % vP V = 2
    · rw [h6, fx_2, fx_2]
      by_cases h7 : (b - 1) / vP V = (b0 - 1) / vP V ∧ o = (b0 - 1) % vP V / 8
      · rw [if_pos, h7.1, h7.2]
        · rw [h7.1, h6] at he'
          have e9 : b = 1 + (b0 - 1) / vP V * vP V + 2 := by omega
          rw [e9, ← h7.2, Nat.sub_self, byt0 (bits8_lt (fun u => ub_le _ _ _))]
        · rw [h7.1, h6] at he'
          omega
      · rw [if_neg]
        · apply bits8_congr
          intro u hu
          unfold ub
          show (if vP V ≤ 8 * o + u ∨ vot (setA V 0 b0 t) (1 + (b - 1) / vP V * vP V + (8 * o + u)) ≠ 0 then 1 else 0) = _
          by_cases hk : vP V ≤ 8 * o + u
          · rw [if_pos (.inl hk), if_pos (.inl hk)]
          · rw [hot]
            intro e
            have h9 := B.1.blk (x := (b - 1) / vP V) (r := 8 * o + u) (by omega)
            rw [show (b - 1) / vP V * vP V + (8 * o + u) = b0 - 1 from by omega] at h9
            exact h7 ⟨h9.1.symm, by omega⟩
        · intro h9
          have e9 : b = 1 + (b0 - 1) / vP V * vP V + 2 := by omega
          apply h7
          constructor
          · rw [e9, e0, h8.1]
          · omega
    · rw [if_neg]
      · rcases (show (b - 1) % vP V = 0 ∨ (b - 1) % vP V = 1 ∨ (b - 1) % vP V = 3 ∨ 4 ≤ (b - 1) % vP V by omega) with e | e | e | e
        · rw [e]; rfl
        · rw [e]; rfl
        · rw [e]; rfl
        · rw [fx_4 _ _ _ _ _ _ e, fx_4 _ _ _ _ _ _ e]; rfl
      · intro h9
        have e9 : b = 1 + (b0 - 1) / vP V * vP V + 2 := by omega
        rw [e9, e0, h8.2] at h6
        exact h6 rfl
  · rw [if_neg]
    · rw [img, hot b hn, if_neg h5, img, if_neg h5]; rfl
    · intro h9
      have e9 : b = 1 + (b0 - 1) / vP V * vP V + 2 := by omega
      rw [e9] at h5; exact h5 hfix
theorem DX_bitI {nb : Nat} {V : VV} {d : Nat → Nat} (B : Bas nb V) (D : DX nb V d) {i t : Nat} (h1 : 1 ≤ i) (h2 : i ≤ vQ V * vG V) (h3 : ¬ live V i) (ht : t ≠ 1 ∧ t ≠ 2) :
    DX nb (setA V 3 i t) (wrN d (1024 * (1 + (i - 1) / vG V * vP V + 3) + (i - 1) % vG V / 8) 1 (bits8 (fun u => ui (setA V 3 i t) ((i - 1) / vG V) (8 * ((i - 1) % vG V / 8) + u)))) := by
  obtain ⟨hx, he, hr⟩ := B.1.ino h1 h2
  have hG8 : 8 ≤ vG V := B.1.2.2.2.2.2.2.2.2.2.1
  have hQG : vQ V * vG V ≤ 2064 := B.1.2.2.2.2.2.2.2.2.2.2.2
  have hP2 : 12 + vG V / 8 ≤ vP V := B.1.2.2.2.2.2.2.2.1
  have hP3 : vP V ≤ 256 := by have := B.1.2.2.1; omega
  have hk : ∀ j, j ≠ i → vkd (setA V 3 i t) j = vkd V j := fun j h => by simp [vP, vQ, vG, vI, vot, voi, vok, vkd, vsz, vlk, vmn, vrn, vtw, vsg, vdb, vpar, vFB, vFI, vdat, vtm, vent, vdp, vbl, vrw, vfb, vfi, vdc, ves, setA, setT, setS, setR, setE, va_up, up1, h]
  have hk0 : vkd (setA V 3 i t) i = t := by simp [vP, vQ, vG, vI, vot, voi, vok, vkd, vsz, vlk, vmn, vrn, vtw, vsg, vdb, vpar, vFB, vFI, vdat, vtm, vent, vdp, vbl, vrw, vfb, vfi, vdc, ves, setA, setT, setS, setR, setE, va_up, up1]
  refine DX_wr D (fun b _ h => h) (fun b o hb hoo h => ?_)
  have e0 : 1 + (i - 1) / vG V * vP V + 3 - 1 = (i - 1) / vG V * vP V + 3 := by omega
  have h8 := B.1.blk (x := (i - 1) / vG V) (r := 3) (by omega)
  have hg := B.1.grp hx
  have hfix : vot V (1 + (i - 1) / vG V * vP V + 3) = 2 := (B.2.1 _ (by omega) (by omega)).mp (by rw [e0, h8.2]; omega)
  by_cases h5 : vot V b = 2
  · have hb1 : 1 ≤ b := by
      rcases Nat.eq_zero_or_pos b with h | h
      · rw [h, B.2.2.1] at h5; omega
      · exact h
    obtain ⟨hx', he', hr'⟩ := B.1.div hb1 hb
    have hr2 := (B.2.1 b hb1 hb).mpr h5
    rw [img, if_pos (show vot (setA V 3 i t) b = 2 from h5), img, if_pos h5]
    show fx nb (setA V 3 i t) ((b - 1) / vP V) ((b - 1) % vP V) o b = _
    by_cases h6 : (b - 1) % vP V = 3
    · rw [h6, fx_3, fx_3]
      by_cases h7 : (b - 1) / vP V = (i - 1) / vG V ∧ o = (i - 1) % vG V / 8
      · rw [h7.1, h6] at he'
        rw [if_pos (by omega), h7.1, h7.2]
        have e9 : b = 1 + (i - 1) / vG V * vP V + 3 := by omega
        rw [e9, ← h7.2, Nat.sub_self, byt0 (bits8_lt (fun u => ui_le _ _ _))]
      · rw [if_neg]
        · apply bits8_congr
          intro u hu
          unfold ui
          show (if vG V ≤ 8 * o + u ∨ vkd (setA V 3 i t) ((b - 1) / vP V * vG V + (8 * o + u) + 1) ≠ 0 then 1 else 0) = _
          by_cases hkk : vG V ≤ 8 * o + u
          · rw [if_pos (.inl hkk), if_pos (.inl hkk)]
          · rw [hk]
            intro e
            apply h7
            have hlt : 8 * o + u < vG V := by omega
            have ee : i - 1 = (b - 1) / vP V * vG V + (8 * o + u) := by omega
            have e1 : (i - 1) / vG V = (b - 1) / vP V := by
              rw [ee, Nat.add_comm, Nat.add_mul_div_right _ _ (by omega), Nat.div_eq_of_lt hlt, Nat.zero_add]
            have e2 : (i - 1) % vG V = 8 * o + u := by
              rw [ee, Nat.add_comm, Nat.add_mul_mod_self_right, Nat.mod_eq_of_lt hlt]
            exact ⟨e1.symm, by omega⟩
        · intro h9
          have hm : (i - 1) % vG V / 8 < 1024 := by
            have : (i - 1) % vG V ≤ i - 1 := Nat.mod_le _ _
            omega
          have e9 : b = 1 + (i - 1) / vG V * vP V + 3 := by omega
          apply h7
          constructor
          · rw [e9, e0, h8.1]
          · omega
    · have hm : (i - 1) % vG V / 8 < 1024 := by
        have : (i - 1) % vG V ≤ i - 1 := Nat.mod_le _ _
        omega
      rw [if_neg]
      · rcases (show (b - 1) % vP V = 0 ∨ (b - 1) % vP V = 1 ∨ (b - 1) % vP V = 2 ∨ 4 ≤ (b - 1) % vP V by omega) with e | e | e | e
        · rw [e]; rfl
        · rw [e]; rfl
        · rw [e]; rfl
        · rw [fx_4 _ _ _ _ _ _ e, fx_4 _ _ _ _ _ _ e]
          show ino (setA V 3 i t) (inoX (vP V) (vG V) b o) (o % 128) = _
          by_cases h10 : inoX (vP V) (vG V) b o = i
          · rw [h10, ino, hk0, if_neg (by omega), ino, if_neg h3]
          · rw [ino, hk _ h10, ino, inoF, inoF, hk _ h10]; rfl
      · intro h9
        have e9 : b = 1 + (i - 1) / vG V * vP V + 3 := by omega
        rw [e9, e0, h8.2] at h6
        exact h6 rfl
  · have hm : (i - 1) % vG V / 8 < 1024 := by
      have : (i - 1) % vG V ≤ i - 1 := Nat.mod_le _ _
      omega
    rw [if_neg]
    · rw [img, if_neg (show ¬ vot (setA V 3 i t) b = 2 from h5), img, if_neg h5]; rfl
    · intro h9
      have e9 : b = 1 + (i - 1) / vG V * vP V + 3 := by omega
      rw [e9] at h5; exact h5 hfix
