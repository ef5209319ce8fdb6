theorem img_3 {nb : Nat} {V : VV} {b : Nat} (o : Nat) (h : vot V b = 3) : img nb V b o = vdat V (1024 * b + o) := by
  unfold img; rw [h]; rfl
theorem img_4 {nb : Nat} {V : VV} {b : Nat} (o : Nat) (h : vot V b = 4) : img nb V b o = byt (ptr V (voi V b) (12 + o / 4)) (o % 4) := by
  unfold img; rw [h]; rfl
theorem img_5 {nb : Nat} {V : VV} {b : Nat} (o : Nat) (h : vot V b = 5) : img nb V b o = byt (if o / 4 < vrn V (voi V b) then vrw V (voi V b) (o / 4) else 0) (o % 4) := by
  unfold img; rw [h]; rfl
theorem img_6 {nb : Nat} {V : VV} {b : Nat} (o : Nat) (h : vot V b = 6) : img nb V b o = byt (ptr V (voi V b) (268 + 256 * vok V b + o / 4)) (o % 4) := by
  unfold img; rw [h]; rfl
theorem img_2 {nb : Nat} {V : VV} {b : Nat} (o : Nat) (h : vot V b = 2) : img nb V b o = fx nb V ((b - 1) / vP V) ((b - 1) % vP V) o b := by
  unfold img; rw [h]; rfl
def vOwn (V : VV) (b t i k : Nat) : VV := setA (setA (setA V 0 b t) 1 b i) 2 b k
theorem vOwn_t (V : VV) (b t i k j : Nat) : vot (vOwn V b t i k) j = if j = b then t else vot V j := by simp [vOwn, vP, vQ, vG, vI, vot, voi, vok, vkd, vsz, vlk, vmn, vrn, vtw, vsg, vdb, vpar, vFB, vFI, vdat, vtm, vent, vdp, vbl, vrw, vfb, vfi, vdc, ves, setA, setT, setS, setR, setE, va_up, up1]
theorem vOwn_i (V : VV) (b t i k j : Nat) : voi (vOwn V b t i k) j = if j = b then i else voi V j := by simp [vOwn, vP, vQ, vG, vI, vot, voi, vok, vkd, vsz, vlk, vmn, vrn, vtw, vsg, vdb, vpar, vFB, vFI, vdat, vtm, vent, vdp, vbl, vrw, vfb, vfi, vdc, ves, setA, setT, setS, setR, setE, va_up, up1]
theorem vOwn_k (V : VV) (b t i k j : Nat) : vok (vOwn V b t i k) j = if j = b then k else vok V j := by simp [vOwn, vP, vQ, vG, vI, vot, voi, vok, vkd, vsz, vlk, vmn, vrn, vtw, vsg, vdb, vpar, vFB, vFI, vdat, vtm, vent, vdp, vbl, vrw, vfb, vfi, vdc, ves, setA, setT, setS, setR, setE, va_up, up1]
theorem img_own {nb : Nat} {V : VV} {b0 t i k : Nat} (h0 : vot V b0 = 1) (ht : t ≠ 0) {b : Nat} (hb : b ≠ b0) (o : Nat) : img nb (vOwn V b0 t i k) b o = img nb V b o := by
  have e1 : vot (vOwn V b0 t i k) b = vot V b := by rw [vOwn_t, if_neg hb]
  have e2 : voi (vOwn V b0 t i k) b = voi V b := by rw [vOwn_i, if_neg hb]
  have e3 : vok (vOwn V b0 t i k) b = vok V b := by rw [vOwn_k, if_neg hb]
  have e4 : ∀ x k', ub (vOwn V b0 t i k) x k' = ub V x k' := fun x k' => by
    unfold ub
    show (if vP V ≤ k' ∨ vot (vOwn V b0 t i k) (1 + x * vP V + k') ≠ 0 then 1 else 0) = _
    have : vot (vOwn V b0 t i k) (1 + x * vP V + k') ≠ 0 ↔ vot V (1 + x * vP V + k') ≠ 0 := by
      rw [vOwn_t]
      by_cases h : 1 + x * vP V + k' = b0
      · rw [if_pos h, h, h0]; omega
      · rw [if_neg h]
    simp only [this]
  rw [img, img, e1, e2, e3]
  by_cases h2 : vot V b = 2
  · rw [if_pos h2, if_pos h2]
    show fx nb (vOwn V b0 t i k) ((b - 1) / vP V) ((b - 1) % vP V) o b = _
    by_cases h4 : (b - 1) % vP V < 4
    · exact fx_low (V := V) (V' := vOwn V b0 t i k) (fun _ => rfl) rfl (fun _ _ => rfl) e4 (fun _ _ => rfl) _ _ _ _ h4
    · rw [fx_4 _ _ _ _ _ _ (by omega), fx_4 _ _ _ _ _ _ (by omega)]; rfl
  · rw [if_neg h2, if_neg h2]; rfl
theorem DX_own {nb : Nat} {V : VV} {d : Nat → Nat} (D : DX nb V d) {b0 t i k : Nat} (h0 : vot V b0 = 1) (ht : t ≠ 0) (hz : ∀ o, o < 1024 → d (1024 * b0 + o) = img nb (vOwn V b0 t i k) b0 o) : DX nb (vOwn V b0 t i k) d := by
  intro b o hb ho h2
  by_cases h : b = b0
  · rw [h]; exact hz o ho
  · rw [img_own h0 ht h]
    rw [vOwn_t, if_neg h] at h2
    exact D b o hb ho h2
-- the bytes of a block of data, or of one that belongs to nobody
theorem DX_dat {nb : Nat} {V : VV} {d d' f : Nat → Nat} (D : DX nb V d) {b0 : Nat} (h0 : vot V b0 < 2 ∨ vot V b0 = 3) (hin : vot V b0 = 3 → ∀ o, o < 1024 → d' (1024 * b0 + o) = f (1024 * b0 + o)) (hout : ∀ a, a / 1024 ≠ b0 → d' a = d a ∧ f a = vdat V a) : DX nb (setR V 15 f) d' := by
  intro b o hb ho h2
  have h2 : 2 ≤ vot V b := h2
  have hf : ∀ a, vdat (setR V 15 f) a = f a := fun a => by simp [vP, vQ, vG, vI, vot, voi, vok, vkd, vsz, vlk, vmn, vrn, vtw, vsg, vdb, vpar, vFB, vFI, vdat, vtm, vent, vdp, vbl, vrw, vfb, vfi, vdc, ves, setA, setT, setS, setR, setE, va_up, up1]
  by_cases h : b = b0
  · subst h
    have h3 : vot V b = 3 := by omega
    rw [img, if_neg (show ¬ vot (setR V 15 f) b = 2 from by show ¬ vot V b = 2; omega), if_pos (show vot (setR V 15 f) b = 3 from h3), hf, hin h3 o ho]
  · have h4 := hout (1024 * b + o) (by omega)
    rw [h4.1, D b o hb ho h2, img, img]
    by_cases h5 : vot V b = 2
    · rw [if_pos h5, if_pos (show vot (setR V 15 f) b = 2 from h5)]
      show fx nb V _ _ _ _ = fx nb (setR V 15 f) ((b - 1) / vP V) ((b - 1) % vP V) o b
      by_cases h6 : (b - 1) % vP V < 4
      · exact (fx_low (V' := setR V 15 f) (fun _ => rfl) rfl (fun _ _ => rfl) (fun _ _ => rfl) (fun _ _ => rfl) _ _ _ _ h6).symm
      · rw [fx_4 _ _ _ _ _ _ (by omega), fx_4 _ _ _ _ _ _ (by omega)]; rfl
    · rw [if_neg h5, if_neg (show ¬ vot (setR V 15 f) b = 2 from h5)]
      by_cases h6 : vot V b = 3
      · rw [if_pos h6, if_pos (show vot (setR V 15 f) b = 3 from h6), hf, h4.2]
      · rw [if_neg h6, if_neg (show ¬ vot (setR V 15 f) b = 3 from h6)]; rfl
-- a pointer to a block of data: word k of inode i
def ptrA (V : VV) (i k : Nat) : Nat := if k < 12 then inoA (vP V) (vG V) i + (40 + 4 * k) else if k < 268 then 1024 * vsg V i + 4 * (k - 12) else 1024 * vrw V i ((k - 268) / 256) + 4 * ((k - 268) % 256)
def Ptr (nb : Nat) (V : VV) (i k : Nat) : Prop := k < 65804 ∧ (12 ≤ k → k < 268 → vsg V i < nb ∧ ∀ b, b < nb → (vot V b = 4 ∧ voi V b = i ↔ b = vsg V i)) ∧ (268 ≤ k → vrw V i ((k - 268) / 256) < nb ∧ ∀ b, b < nb → (vot V b = 6 ∧ voi V b = i ∧ vok V b = (k - 268) / 256 ↔ b = vrw V i ((k - 268) / 256)))
theorem DX_ptr {nb : Nat} {V V' : VV} {d : Nat → Nat} {i k v : Nat} (B : Bas nb V) (D : DX nb V d) (h1 : 1 ≤ i) (h2 : i ≤ vQ V * vG V) (hl : live V i) (hP : Ptr nb V i k)
    (e1 : vP V' = vP V) (e2 : vG V' = vG V) (e3 : vot V' = vot V) (e4 : voi V' = voi V) (e5 : vok V' = vok V) (e6 : vdat V' = vdat V) (e7 : vkd V' = vkd V) (e8 : ∀ j, inoF V' j = inoF V j) (e9 : vrn V' = vrn V) (e10 : vrw V' = vrw V)
    (hf : ∀ x r o b, r < 4 → fx nb V' x r o b = fx nb V x r o b) (hp : ∀ j m, ptr V' j m = if j = i ∧ m = k then v else ptr V j m) : DX nb V' (wrN d (ptrA V i k) 4 v) := by
  obtain ⟨hk, hp1, hp2⟩ := hP
  have hpn : ∀ j m, ¬ (j = i ∧ m = k) → ptr V' j m = ptr V j m := fun j m h => by rw [hp, if_neg h]
  have hpe : ∀ j m, j = i ∧ m = k → ptr V' j m = v := fun j m h => by rw [hp, if_pos h]
  by_cases hk1 : k < 12
  · rw [ptrA, if_pos hk1]
    refine DX_inoW B D h1 h2 e1 e2 e3 (by omega) ?_ ?_ hf ?_
    · intro o ho
      rw [ino, e7, if_pos hl, ino, if_pos hl, e8]
      by_cases h3 : 40 ≤ o ∧ o < 88
      · rw [if_pos h3, if_pos h3]
        by_cases h4 : (o - 40) / 4 = k
        · rw [hpe _ _ ⟨rfl, h4⟩, if_pos (by omega), show (o - 40) % 4 = o - (40 + 4 * k) from by omega]
        · rw [hpn _ _ (fun h => h4 h.2), if_neg (by omega)]
      · rw [if_neg h3, if_neg h3, if_neg (by omega)]
    · intro j o hj
      rw [ino, e7, ino, e8, hpn _ _ (fun h => hj h.1)]
    · intro b o h
      rw [img, img, e3, e4, e5, e6, e9, e10, if_neg h, if_neg h, hpn _ _ (by omega), hpn _ _ (by omega)]
  · rw [ptrA, if_neg hk1]
    refine DX_wr D (fun b _ h => by rw [← e3]; exact h) (fun b o hb ho h => ?_)
    have hfix : vot V b = 2 → img nb V' b o = img nb V b o := fun h3 => by
      rw [img, img, e3, if_pos h3, if_pos h3, e1]
      by_cases h4 : (b - 1) % vP V < 4
      · exact hf _ _ _ _ h4
      · rw [fx_4 _ _ _ _ _ _ (by omega), fx_4 _ _ _ _ _ _ (by omega), e1, e2, ino, ino, e7, e8]
        by_cases h5 : 40 ≤ o % 128 ∧ o % 128 < 88
        · rw [if_pos h5, if_pos h5, hpn _ _ (by omega)]
        · rw [if_neg h5, if_neg h5]
    by_cases hk2 : k < 268
    · rw [if_pos hk2]
      obtain ⟨hs, hu⟩ := hp1 (by omega) hk2
      have hu1 := (hu _ hs).mpr rfl
      by_cases h3 : vot V b = 2
      · rw [hfix h3, if_neg]
        intro h9
        have : b = vsg V i := by omega
        rw [this] at h3; omega
      · by_cases h4 : vot V b = 4
        · rw [img_4 o h4, img_4 (V := V') o (by rw [e3]; exact h4), e4]
          by_cases h5 : voi V b = i
          · have hb2 := (hu b hb).mp ⟨h4, h5⟩
            by_cases h6 : 12 + o / 4 = k
            · rw [hpe _ _ ⟨h5, h6⟩, if_pos (by omega), show o % 4 = 1024 * b + o - (1024 * vsg V i + 4 * (k - 12)) from by omega]
            · rw [hpn _ _ (fun h => h6 h.2), if_neg (by omega)]
          · rw [hpn _ _ (fun h => h5 h.1), if_neg]
            intro h9
            have : b = vsg V i := by omega
            rw [this] at h5; exact h5 hu1.2
        · have hb3 : ¬ b = vsg V i := fun e => by rw [e] at h4; exact h4 hu1.1
          rw [img, img, e3, e4, e5, e6, e9, e10, if_neg h3, if_neg h3, if_neg h4, if_neg h4, hpn _ _ (by omega), if_neg (show ¬ (1024 * vsg V i + 4 * (k - 12) ≤ 1024 * b + o ∧ 1024 * b + o < 1024 * vsg V i + 4 * (k - 12) + 4) by omega)]
    · rw [if_neg hk2]
      obtain ⟨hs, hu⟩ := hp2 (by omega)
      have hu1 := (hu _ hs).mpr rfl
      by_cases h3 : vot V b = 2
      · rw [hfix h3, if_neg]
        intro h9
        have : b = vrw V i ((k - 268) / 256) := by omega
        rw [this] at h3; omega
      · by_cases h4 : vot V b = 6
        · rw [img_6 o h4, img_6 (V := V') o (by rw [e3]; exact h4), e4, e5]
          by_cases h5 : voi V b = i ∧ vok V b = (k - 268) / 256
          · have hb2 := (hu b hb).mp ⟨h4, h5.1, h5.2⟩
            by_cases h6 : 268 + 256 * vok V b + o / 4 = k
            · rw [hpe _ _ ⟨h5.1, h6⟩, if_pos (by omega), show o % 4 = 1024 * b + o - (1024 * vrw V i ((k - 268) / 256) + 4 * ((k - 268) % 256)) from by omega]
            · rw [hpn _ _ (fun h => h6 h.2), if_neg (by omega)]
          · rw [hpn _ _ (fun h => h5 ⟨h.1, by omega⟩), if_neg]
            intro h9
            have : b = vrw V i ((k - 268) / 256) := by omega
            rw [this] at h5; exact h5 hu1.2
        · rw [img, img, e3, e4, e5, e6, e9, e10, if_neg h3, if_neg h3]
          have : ¬ b = vrw V i ((k - 268) / 256) := fun e => by rw [e] at h4; exact h4 hu1.1
          rw [if_neg h4, if_neg h4, hpn _ _ (show ¬ (voi V b = i ∧ 12 + o / 4 = k) by omega), if_neg (show ¬ (1024 * vrw V i ((k - 268) / 256) + 4 * ((k - 268) % 256) ≤ 1024 * b + o ∧ 1024 * b + o < 1024 * vrw V i ((k - 268) / 256) + 4 * ((k - 268) % 256) + 4) by omega)]
def rptr (V : VV) (i r : Nat) : Nat := if r < vrn V i then vrw V i r else 0
theorem DX_rptr {nb : Nat} {V V' : VV} {d : Nat → Nat} {i r v : Nat} (D : DX nb V d) (hr : r < 256) (hs : vdb V i < nb) (hu : ∀ b, b < nb → (vot V b = 5 ∧ voi V b = i ↔ b = vdb V i))
    (e1 : vP V' = vP V) (e2 : vG V' = vG V) (e3 : vot V' = vot V) (e4 : voi V' = voi V) (e5 : vok V' = vok V) (e6 : vdat V' = vdat V) (e7 : vkd V' = vkd V) (e8 : ∀ j, inoF V' j = inoF V j) (e9 : ∀ j k, ptr V' j k = ptr V j k)
    (hf : ∀ x r o b, r < 4 → fx nb V' x r o b = fx nb V x r o b) (hp : ∀ j m, rptr V' j m = if j = i ∧ m = r then v else rptr V j m) : DX nb V' (wrN d (1024 * vdb V i + 4 * r) 4 v) := by
  have hpn : ∀ j m, ¬ (j = i ∧ m = r) → rptr V' j m = rptr V j m := fun j m h => by rw [hp, if_neg h]
  have hpe : ∀ j m, j = i ∧ m = r → rptr V' j m = v := fun j m h => by rw [hp, if_pos h]
  have hu1 := (hu _ hs).mpr rfl
  refine DX_wr D (fun b _ h => by rw [← e3]; exact h) (fun b o hb ho h => ?_)
  by_cases h5 : vot V b = 5
  · rw [img_5 o h5, img_5 (V := V') o (by rw [e3]; exact h5), e4]
    show byt (rptr V' (voi V b) (o / 4)) (o % 4) = if _ then _ else byt (rptr V (voi V b) (o / 4)) (o % 4)
    by_cases h6 : voi V b = i
    · have hb2 := (hu b hb).mp ⟨h5, h6⟩
      by_cases h7 : o / 4 = r
      · rw [hpe _ _ ⟨h6, h7⟩, if_pos (by omega), show o % 4 = 1024 * b + o - (1024 * vdb V i + 4 * r) from by omega]
      · rw [hpn _ _ (fun h => h7 h.2), if_neg (by omega)]
    · have hb2 : ¬ b = vdb V i := fun e => by rw [e] at h6; exact h6 hu1.2
      rw [hpn _ _ (fun h => h6 h.1), if_neg (by omega)]
  · have hb2 : ¬ b = vdb V i := fun e => by rw [e] at h5; exact h5 hu1.1
    rw [if_neg (show ¬ (1024 * vdb V i + 4 * r ≤ 1024 * b + o ∧ 1024 * b + o < 1024 * vdb V i + 4 * r + 4) by omega), img, img, e3, e4, e5, e6, if_neg h5, if_neg h5, e1]
    simp only [e9]
    by_cases h3 : vot V b = 2
    · rw [if_pos h3, if_pos h3]
      by_cases h4 : (b - 1) % vP V < 4
      · exact hf _ _ _ _ h4
      · rw [fx_4 _ _ _ _ _ _ (by omega), fx_4 _ _ _ _ _ _ (by omega), e1, e2, ino, ino, e7, e8, e9]
    · rw [if_neg h3, if_neg h3]
theorem DX_sg {nb : Nat} {V : VV} {d : Nat → Nat} (B : Bas nb V) (D : DX nb V d) {i : Nat} (h1 : 1 ≤ i) (h2 : i ≤ vQ V * vG V) (hl : live V i) (v : Nat) : DX nb (setA V 9 i v) (wrN d (inoA (vP V) (vG V) i + 88) 4 v) := by
  refine DX_inoF (k := 7) (v0 := vsg V i) B D h1 h2 hl rfl rfl rfl rfl (by omega) rfl (by simp [inoF]) ?_ (fun _ _ => rfl) ?_ (fx_low (fun _ => rfl) rfl (fun _ _ => rfl) (fun _ _ => rfl) (fun _ _ => rfl)) ?_
  · simp [inoF, vP, vQ, vG, vI, vot, voi, vok, vkd, vsz, vlk, vmn, vrn, vtw, vsg, vdb, vpar, vFB, vFI, vdat, vtm, vent, vdp, vbl, vrw, vfb, vfi, vdc, ves, setA, setT, setS, setR, setE, va_up, up1]
  · intro j hj; simp [inoF, vP, vQ, vG, vI, vot, voi, vok, vkd, vsz, vlk, vmn, vrn, vtw, vsg, vdb, vpar, vFB, vFI, vdat, vtm, vent, vdp, vbl, vrw, vfb, vfi, vdc, ves, setA, setT, setS, setR, setE, va_up, up1, hj]
  · intro b o h; rw [img, img, if_neg h, if_neg (show ¬ vot (setA V 9 i v) b = 2 from h)]; rfl
theorem DX_db {nb : Nat} {V : VV} {d : Nat → Nat} (B : Bas nb V) (D : DX nb V d) {i : Nat} (h1 : 1 ≤ i) (h2 : i ≤ vQ V * vG V) (hl : live V i) (v : Nat) : DX nb (setA V 10 i v) (wrN d (inoA (vP V) (vG V) i + 92) 4 v) := by
  refine DX_inoF (k := 8) (v0 := vdb V i) B D h1 h2 hl rfl rfl rfl rfl (by omega) rfl (by simp [inoF]) ?_ (fun _ _ => rfl) ?_ (fx_low (fun _ => rfl) rfl (fun _ _ => rfl) (fun _ _ => rfl) (fun _ _ => rfl)) ?_
  · simp [inoF, vP, vQ, vG, vI, vot, voi, vok, vkd, vsz, vlk, vmn, vrn, vtw, vsg, vdb, vpar, vFB, vFI, vdat, vtm, vent, vdp, vbl, vrw, vfb, vfi, vdc, ves, setA, setT, setS, setR, setE, va_up, up1]
  · intro j hj; simp [inoF, vP, vQ, vG, vI, vot, voi, vok, vkd, vsz, vlk, vmn, vrn, vtw, vsg, vdb, vpar, vFB, vFI, vdat, vtm, vent, vdp, vbl, vrw, vfb, vfi, vdc, ves, setA, setT, setS, setR, setE, va_up, up1, hj]
  · intro b o h; rw [img, img, if_neg h, if_neg (show ¬ vot (setA V 10 i v) b = 2 from h)]; rfl
-- an inode becomes nothing but used
theorem DX_erase {nb : Nat} {V : VV} {d : Nat → Nat} (B : Bas nb V) (D : DX nb V d) {i : Nat} (h1 : 1 ≤ i) (h2 : i ≤ vQ V * vG V) (hl : vkd V i ≠ 0) : DX nb (setA V 3 i 3) (wrF d (inoA (vP V) (vG V) i) (inoA (vP V) (vG V) i + 128) 0) := by
  have hk : ∀ j, j ≠ i → vkd (setA V 3 i 3) j = vkd V j := fun j h => by simp [vP, vQ, vG, vI, vot, voi, vok, vkd, vsz, vlk, vmn, vrn, vtw, vsg, vdb, vpar, vFB, vFI, vdat, vtm, vent, vdp, vbl, vrw, vfb, vfi, vdc, ves, setA, setT, setS, setR, setE, va_up, up1, h]
  have hk0 : vkd (setA V 3 i 3) i = 3 := by simp [vP, vQ, vG, vI, vot, voi, vok, vkd, vsz, vlk, vmn, vrn, vtw, vsg, vdb, vpar, vFB, vFI, vdat, vtm, vent, vdp, vbl, vrw, vfb, vfi, vdc, ves, setA, setT, setS, setR, setE, va_up, up1]
  have e : wrF d (inoA (vP V) (vG V) i) (inoA (vP V) (vG V) i + 128) 0 = wrN d (inoA (vP V) (vG V) i + 0) 128 0 := by
    funext x; unfold wrF wrN byt; simp
  rw [e]
  refine DX_inoW B D h1 h2 rfl rfl rfl (by omega) ?_ ?_ (fx_low (fun _ => rfl) rfl (fun _ _ => rfl) (fun _ _ => rfl) ?_) ?_
  · intro o ho
    rw [ino, hk0, if_neg (by omega), if_pos (by omega)]; simp [byt]
  · intro j o hj
    rw [ino, ino, inoF, inoF, hk j hj]; rfl
  · intro x k
    unfold ui
    have : vkd (setA V 3 i 3) (x * vG V + k + 1) ≠ 0 ↔ vkd V (x * vG V + k + 1) ≠ 0 := by
      by_cases h : x * vG V + k + 1 = i
      · rw [h, hk0]; omega
      · rw [hk _ h]
    show (if vG V ≤ k ∨ vkd (setA V 3 i 3) (x * vG V + k + 1) ≠ 0 then 1 else 0) = _
    simp only [this]
  · intro b o h; rw [img, img, if_neg h, if_neg (show ¬ vot (setA V 3 i 3) b = 2 from h)]; rfl
