theorem ino_in {nb : Nat} {V : VV} (B : Bas nb V) {i b o : Nat} (h1 : 1 ≤ i) (h2 : i ≤ vQ V * vG V) (ho : o < 1024) (ha : inoA (vP V) (vG V) i ≤ 1024 * b + o) (hb : 1024 * b + o < inoA (vP V) (vG V) i + 128) :
    1 ≤ b ∧ 4 ≤ (b - 1) % vP V ∧ (b - 1) % vP V < 4 + vG V / 8 ∧ inoX (vP V) (vG V) b o = i ∧ o % 128 = 1024 * b + o - inoA (vP V) (vG V) i := by
  obtain ⟨b', o', hb', hb1, ho', e, hr, hr2, hx, hm⟩ := B.1.at h1 h2 (o := 1024 * b + o - inoA (vP V) (vG V) i) (by omega)
  have e1 : b' = b := by omega
  have e2 : o' = o := by omega
  subst e1; subst e2
  exact ⟨hb1, hr, hr2, hx, hm⟩
theorem DX_inoW {nb : Nat} {V V' : VV} {d : Nat → Nat} {i s n v : Nat} (B : Bas nb V) (D : DX nb V d) (h1 : 1 ≤ i) (h2 : i ≤ vQ V * vG V) (hP : vP V' = vP V) (hG : vG V' = vG V) (ht : vot V' = vot V) (hn : s + n ≤ 128)
    (hs : ∀ o, o < 128 → ino V' i o = if s ≤ o ∧ o < s + n then byt v (o - s) else ino V i o) (ho : ∀ j o, j ≠ i → ino V' j o = ino V j o)
    (hf : ∀ x r o b, r < 4 → fx nb V' x r o b = fx nb V x r o b) (hg : ∀ b o, vot V b ≠ 2 → img nb V' b o = img nb V b o) : DX nb V' (wrN d (inoA (vP V) (vG V) i + s) n v) := by
  refine DX_wr D (fun b _ h => by rw [← ht]; exact h) (fun b o hb hoo h2' => ?_)
  rw [ht] at h2'
  have key : (inoA (vP V) (vG V) i + s ≤ 1024 * b + o ∧ 1024 * b + o < inoA (vP V) (vG V) i + s + n) → _ := fun h => ino_in B h1 h2 hoo (b := b) (o := o) (by omega) (by omega)
  by_cases h3 : vot V b = 2
  · have hb1 : 1 ≤ b := by
      rcases Nat.eq_zero_or_pos b with h | h
      · rw [h, B.2.2.1] at h3; omega
      · exact h
    have hr2 := (B.2.1 b hb1 hb).mpr h3
    rw [img, ht, if_pos h3, hP, img, if_pos h3]
    by_cases h4 : (b - 1) % vP V < 4
    · rw [hf _ _ _ _ h4, if_neg]
      intro h7; have := key h7; omega
    · have h4 : 4 ≤ (b - 1) % vP V := by omega
      rw [fx_4 _ _ _ _ _ _ h4, fx_4 _ _ _ _ _ _ h4, hP, hG]
      obtain ⟨_, _, hinv⟩ := B.1.inv hb1 hb hoo h4 hr2
      by_cases h5 : inoX (vP V) (vG V) b o = i
      · rw [h5] at hinv
        rw [h5, hs _ (by omega)]
        by_cases h6 : s ≤ o % 128 ∧ o % 128 < s + n
        · rw [if_pos h6, if_pos (by omega), show 1024 * b + o - (inoA (vP V) (vG V) i + s) = o % 128 - s from by omega]
        · rw [if_neg h6, if_neg (by omega)]
      · rw [ho _ _ h5, if_neg]
        intro h7; exact h5 (key h7).2.2.2.1
  · rw [hg b o h3, if_neg]
    intro h7
    have h8 := key h7
    exact h3 ((B.2.1 b h8.1 hb).mp h8.2.2.1)
-- one field of an inode
theorem DX_inoF {nb : Nat} {V V' : VV} {d : Nat → Nat} {i k s n v v0 : Nat} (B : Bas nb V) (D : DX nb V d) (h1 : 1 ≤ i) (h2 : i ≤ vQ V * vG V) (hl : live V i) (hP : vP V' = vP V) (hG : vG V' = vG V) (ht : vot V' = vot V) (hk : vkd V' = vkd V) (hn : s + n ≤ 40 ∨ 88 ≤ s ∧ s + n ≤ 128)
    (hL : (inoF V i)[k]? = some (s, n, v0)) (hd : ∀ q ∈ (inoF V i).take k, q.1 + q.2.1 ≤ s ∨ s + n ≤ q.1) (hs : inoF V' i = (inoF V i).set k (s, n, v)) (hp : ∀ j k, ptr V' j k = ptr V j k)
    (ho : ∀ j, j ≠ i → inoF V' j = inoF V j)
    (hf : ∀ x r o b, r < 4 → fx nb V' x r o b = fx nb V x r o b) (hg : ∀ b o, vot V b ≠ 2 → img nb V' b o = img nb V b o) : DX nb V' (wrN d (inoA (vP V) (vG V) i + s) n v) := by
  refine DX_inoW B D h1 h2 hP hG ht (by omega) ?_ ?_ hf hg
  · intro o ho'
    rw [ino, hk, if_pos hl, ino, if_pos hl]
    by_cases h3 : 40 ≤ o ∧ o < 88
    · rw [if_pos h3, if_pos h3, if_neg (by omega), hp]
    · rw [if_neg h3, if_neg h3, hs, fld_set _ k s n v v0 o hL hd]
  · intro j o hj
    rw [ino, hk, ino, ho j hj]
    simp only [hp]
theorem fx_low {nb : Nat} {V V' : VV} (hS : ∀ x, supF nb V' x = supF nb V x) (hQ : vQ V' = vQ V) (hd : ∀ x y, dscF V' x y = dscF V x y) (hu : ∀ x k, ub V' x k = ub V x k) (hi : ∀ x k, ui V' x k = ui V x k) :
    ∀ x r o b, r < 4 → fx nb V' x r o b = fx nb V x r o b := by
  intro x r o b hr
  rcases (show r = 0 ∨ r = 1 ∨ r = 2 ∨ r = 3 by omega) with rfl | rfl | rfl | rfl
  · rw [fx_0, fx_0, hS]
  · rw [fx_1, fx_1, hQ, hd]
  · simp only [fx_2, hu]
  · simp only [fx_3, hi]
theorem DX_sz {nb : Nat} {V : VV} {d : Nat → Nat} (B : Bas nb V) (D : DX nb V d) {i : Nat} (h1 : 1 ≤ i) (h2 : i ≤ vQ V * vG V) (hl : live V i) (v : Nat) : DX nb (setA V 4 i v) (wrN d (inoA (vP V) (vG V) i + 4) 4 v) := by
  refine DX_inoF (k := 1) (v0 := vsz V i) B D h1 h2 hl rfl rfl rfl rfl (by omega) rfl (by simp [inoF]) ?_ (fun _ _ => rfl) ?_ (fx_low (fun _ => rfl) rfl (fun _ _ => rfl) (fun _ _ => rfl) (fun _ _ => rfl)) ?_
  · simp [inoF, vP, vQ, vG, vI, vot, voi, vok, vkd, vsz, vlk, vmn, vrn, vtw, vsg, vdb, vpar, vFB, vFI, vdat, vtm, vent, vdp, vbl, vrw, vfb, vfi, vdc, ves, setA, setT, setS, setR, setE, va_up, up1]
  · intro j hj; simp [inoF, vP, vQ, vG, vI, vot, voi, vok, vkd, vsz, vlk, vmn, vrn, vtw, vsg, vdb, vpar, vFB, vFI, vdat, vtm, vent, vdp, vbl, vrw, vfb, vfi, vdc, ves, setA, setT, setS, setR, setE, va_up, up1, hj]
  · intro b o h; rw [img, img, if_neg h, if_neg (show ¬ vot (setA V 4 i v) b = 2 from h)]; rfl
theorem DX_lk {nb : Nat} {V : VV} {d : Nat → Nat} (B : Bas nb V) (D : DX nb V d) {i : Nat} (h1 : 1 ≤ i) (h2 : i ≤ vQ V * vG V) (hl : live V i) (v : Nat) : DX nb (setA V 5 i v) (wrN d (inoA (vP V) (vG V) i + 26) 2 v) := by
  refine DX_inoF (k := 5) (v0 := vlk V i) B D h1 h2 hl rfl rfl rfl rfl (by omega) rfl (by simp [inoF]) ?_ (fun _ _ => rfl) ?_ (fx_low (fun _ => rfl) rfl (fun _ _ => rfl) (fun _ _ => rfl) (fun _ _ => rfl)) ?_
  · simp [inoF, vP, vQ, vG, vI, vot, voi, vok, vkd, vsz, vlk, vmn, vrn, vtw, vsg, vdb, vpar, vFB, vFI, vdat, vtm, vent, vdp, vbl, vrw, vfb, vfi, vdc, ves, setA, setT, setS, setR, setE, va_up, up1]
  · intro j hj; simp [inoF, vP, vQ, vG, vI, vot, voi, vok, vkd, vsz, vlk, vmn, vrn, vtw, vsg, vdb, vpar, vFB, vFI, vdat, vtm, vent, vdp, vbl, vrw, vfb, vfi, vdc, ves, setA, setT, setS, setR, setE, va_up, up1, hj]
  · intro b o h; rw [img, img, if_neg h, if_neg (show ¬ vot (setA V 5 i v) b = 2 from h)]; rfl
theorem DX_tw {nb : Nat} {V : VV} {d : Nat → Nat} (B : Bas nb V) (D : DX nb V d) {i : Nat} (h1 : 1 ≤ i) (h2 : i ≤ vQ V * vG V) (hl : live V i) (v : Nat) : DX nb (setA V 8 i v) (wrN d (inoA (vP V) (vG V) i + 28) 4 v) := by
  refine DX_inoF (k := 6) (v0 := vtw V i) B D h1 h2 hl rfl rfl rfl rfl (by omega) rfl (by simp [inoF]) ?_ (fun _ _ => rfl) ?_ (fx_low (fun _ => rfl) rfl (fun _ _ => rfl) (fun _ _ => rfl) (fun _ _ => rfl)) ?_
  · simp [inoF, vP, vQ, vG, vI, vot, voi, vok, vkd, vsz, vlk, vmn, vrn, vtw, vsg, vdb, vpar, vFB, vFI, vdat, vtm, vent, vdp, vbl, vrw, vfb, vfi, vdc, ves, setA, setT, setS, setR, setE, va_up, up1]
  · intro j hj; simp [inoF, vP, vQ, vG, vI, vot, voi, vok, vkd, vsz, vlk, vmn, vrn, vtw, vsg, vdb, vpar, vFB, vFI, vdat, vtm, vent, vdp, vbl, vrw, vfb, vfi, vdc, ves, setA, setT, setS, setR, setE, va_up, up1, hj]
  · intro b o h; rw [img, img, if_neg h, if_neg (show ¬ vot (setA V 8 i v) b = 2 from h)]; rfl
theorem DX_tm {nb : Nat} {V : VV} {d : Nat → Nat} (B : Bas nb V) (D : DX nb V d) {i : Nat} (h1 : 1 ≤ i) (h2 : i ≤ vQ V * vG V) (hl : live V i) {w : Nat} (hw : w < 3) (v : Nat) : DX nb (setA V 16 (3 * i + w) v) (wrN d (inoA (vP V) (vG V) i + (8 + 4 * w)) 4 v) := by
  refine DX_inoF (k := 2 + w) (v0 := vtm V (3 * i + w)) B D h1 h2 hl rfl rfl rfl rfl (by omega) ?_ ?_ ?_ (fun _ _ => rfl) ?_ (fx_low (fun _ => rfl) rfl (fun _ _ => rfl) (fun _ _ => rfl) (fun _ _ => rfl)) ?_
  · rcases (show w = 0 ∨ w = 1 ∨ w = 2 by omega) with rfl | rfl | rfl <;> rfl
  · rcases (show w = 0 ∨ w = 1 ∨ w = 2 by omega) with rfl | rfl | rfl <;> simp [inoF]
  · rcases (show w = 0 ∨ w = 1 ∨ w = 2 by omega) with rfl | rfl | rfl <;> simp [inoF, vP, vQ, vG, vI, vot, voi, vok, vkd, vsz, vlk, vmn, vrn, vtw, vsg, vdb, vpar, vFB, vFI, vdat, vtm, vent, vdp, vbl, vrw, vfb, vfi, vdc, ves, setA, setT, setS, setR, setE, va_up, up1]
  · intro j hj
    have e : ∀ u, u < 3 → vtm (setA V 16 (3 * i + w) v) (3 * j + u) = vtm V (3 * j + u) := fun u hu => by
      simp only [vP, vQ, vG, vI, vot, voi, vok, vkd, vsz, vlk, vmn, vrn, vtw, vsg, vdb, vpar, vFB, vFI, vdat, vtm, vent, vdp, vbl, vrw, vfb, vfi, vdc, ves, setA, setT, setS, setR, setE, va_up, up1, if_true]; rw [if_neg (by omega)]
    have e0 := e 0 (by omega); have e1 := e 1 (by omega); have e2 := e 2 (by omega)
    rw [Nat.add_zero] at e0
    rw [inoF, e0, e1, e2]; rfl
  · intro b o h; rw [img, img, if_neg h, if_neg (show ¬ vot (setA V 16 (3 * i + w) v) b = 2 from h)]; rfl
-- a used inode that is none yet becomes a file or a directory
theorem DX_kd {nb : Nat} {V : VV} {d : Nat → Nat} (B : Bas nb V) (D : DX nb V d) {i t : Nat} (h1 : 1 ≤ i) (h2 : i ≤ vQ V * vG V) (hl : vkd V i = 3) (ht : t = 1 ∨ t = 2) (hz : vsz V i = 0 ∧ vlk V i = 0 ∧ vmn V i = 0 ∧ vtw V i = 0 ∧ vsg V i = 0 ∧ vdb V i = 0 ∧ vtm V (3 * i) = 0 ∧ vtm V (3 * i + 1) = 0 ∧ vtm V (3 * i + 2) = 0) :
    DX nb (setA V 3 i t) (wrN d (inoA (vP V) (vG V) i) 2 (if t = 2 then 16877 else 33188)) := by
  have hk : vkd (setA V 3 i t) i = t := by simp [vP, vQ, vG, vI, vot, voi, vok, vkd, vsz, vlk, vmn, vrn, vtw, vsg, vdb, vpar, vFB, vFI, vdat, vtm, vent, vdp, vbl, vrw, vfb, vfi, vdc, ves, setA, setT, setS, setR, setE, va_up, up1]
  obtain ⟨z1, z2, z3, z4, z5, z6, z7, z8, z9⟩ := hz
  refine DX_inoW (s := 0) B D h1 h2 rfl rfl rfl (by omega) ?_ ?_ (fx_low (fun _ => rfl) rfl (fun _ _ => rfl) (fun _ _ => rfl) ?_) ?_
  · intro o ho
    have hz0 : ino V i o = 0 := by rw [ino, if_neg (show ¬ (vkd V i = 1 ∨ vkd V i = 2) by omega)]
    rw [hz0, ino, hk, if_pos ht]
    have ep : ∀ k, ptr (setA V 3 i t) i k = 0 := fun k => by
      unfold ptr; rw [if_neg]; show ¬ k < vmn V i; omega
    have b0 : ∀ j, byt 0 j = 0 := fun j => by simp [byt]
    have ef : inoF (setA V 3 i t) i = [(0, 2, if t = 2 then 16877 else 33188), (4, 4, 0), (8, 4, 0), (12, 4, 0), (16, 4, 0), (26, 2, 0), (28, 4, 0), (88, 4, 0), (92, 4, 0)] := by
      rw [inoF, hk]
      show [_, (4, 4, vsz V i), (8, 4, vtm V (3 * i)), (12, 4, vtm V (3 * i + 1)), (16, 4, vtm V (3 * i + 2)), (26, 2, vlk V i), (28, 4, vtw V i), (88, 4, vsg V i), (92, 4, vdb V i)] = _
      rw [z1, z2, z4, z5, z6, z7, z8, z9]
    rw [ef]
    simp only [ep, b0, fld, ite_self, Nat.sub_zero, Nat.zero_add]
    by_cases h3 : 40 ≤ o ∧ o < 88
    · rw [if_pos h3, if_neg (by omega)]
    · rw [if_neg h3]
  · intro j o hj
    have : vkd (setA V 3 i t) j = vkd V j := by simp [vP, vQ, vG, vI, vot, voi, vok, vkd, vsz, vlk, vmn, vrn, vtw, vsg, vdb, vpar, vFB, vFI, vdat, vtm, vent, vdp, vbl, vrw, vfb, vfi, vdc, ves, setA, setT, setS, setR, setE, va_up, up1, hj]
    rw [ino, ino, inoF, inoF, this]; rfl
  · intro x k
    unfold ui
    have : vkd (setA V 3 i t) (x * vG V + k + 1) ≠ 0 ↔ vkd V (x * vG V + k + 1) ≠ 0 := by
      by_cases h : x * vG V + k + 1 = i
      · rw [h, hk, hl]; omega
      · simp [vP, vQ, vG, vI, vot, voi, vok, vkd, vsz, vlk, vmn, vrn, vtw, vsg, vdb, vpar, vFB, vFI, vdat, vtm, vent, vdp, vbl, vrw, vfb, vfi, vdc, ves, setA, setT, setS, setR, setE, va_up, up1, h]
    show (if vG V ≤ k ∨ vkd (setA V 3 i t) (x * vG V + k + 1) ≠ 0 then 1 else 0) = _
    simp only [this]
  · intro b o h; rw [img, img, if_neg h, if_neg (show ¬ vot (setA V 3 i t) b = 2 from h)]; rfl
