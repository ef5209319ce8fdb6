-- counts in all copies
def cnt (V : VV) (a t x v w : Nat) : Nat → VV
  | 0 => V
  | n + 1 => setT (setA (cnt V a t x v w n) a n v) t n x w
theorem cnt_s (V : VV) (a t x v w n : Nat) : (cnt V a t x v w n).1 = V.1 := by
  induction n with
  | zero => rfl
  | succ n ih => exact ih
theorem cnt_a (V : VV) {a k : Nat} (t x v w n : Nat) (h : k ≠ a) : (cnt V a t x v w n).2.1 k = V.2.1 k := by
  induction n with
  | zero => rfl
  | succ n ih => show va_up (cnt V a t x v w n).2.1 a _ k = _; rw [va_up_ne _ _ h, ih]
theorem cnt_aa (V : VV) (a t x v w n y : Nat) : (cnt V a t x v w n).2.1 a y = if y < n then v else V.2.1 a y := by
  induction n with
  | zero => rw [if_neg (by omega)]; rfl
  | succ n ih =>
    show va_up (cnt V a t x v w n).2.1 a (up1 ((cnt V a t x v w n).2.1 a) n v) a y = _
    rw [va_up_self, up1, ih]
    by_cases h : y = n
    · rw [if_pos h, if_pos (by omega)]
    · rw [if_neg h]
      by_cases h2 : y < n
      · rw [if_pos h2, if_pos (by omega)]
      · rw [if_neg h2, if_neg (by omega)]
theorem cnt_t (V : VV) {t k : Nat} (a x v w n : Nat) (h : k ≠ t) : (cnt V a t x v w n).2.2.1 k = V.2.2.1 k := by
  induction n with
  | zero => rfl
  | succ n ih => show va_up (cnt V a t x v w n).2.2.1 t _ k = _; rw [va_up_ne _ _ h, ih]
theorem cnt_tt (V : VV) (a t x v w n c z : Nat) : (cnt V a t x v w n).2.2.1 t c z = if c < n ∧ z = x then w else V.2.2.1 t c z := by
  induction n with
  | zero => rw [if_neg (by omega)]; rfl
  | succ n ih =>
    show va_up (cnt V a t x v w n).2.2.1 t (va_up ((cnt V a t x v w n).2.2.1 t) n (up1 ((cnt V a t x v w n).2.2.1 t n) x w)) t c z = _
    rw [va_up_self]
    by_cases h : c = n
    · subst h
      rw [va_up_self, up1, ih]
      by_cases h2 : z = x
      · rw [if_pos h2, if_pos ⟨by omega, h2⟩]
      · rw [if_neg h2, if_neg (by omega), if_neg (by omega)]
    · rw [va_up_ne _ _ h, ih]
      by_cases h2 : c < n ∧ z = x
      · rw [if_pos h2, if_pos (by omega)]
      · rw [if_neg h2, if_neg (by omega)]
theorem cnt_l (V : VV) (a t x v w n : Nat) : (cnt V a t x v w n).2.2.2 = V.2.2.2 := by
  induction n with
  | zero => rfl
  | succ n ih => exact ih
theorem mark4_L {nb : Nat} {V : VV} {d : Nat → Nat} {σ : XS} (B : Bas nb V) (S : Sc V σ) (D : DX nb V d) {x F f F' f' : Nat} {δ : Int32} (hx : x < vQ V) (hF : ∀ y, y < vQ V → vFB V y = F) (hf : ∀ y, y < vQ V → vfb V y x = f) (hF2 : F < 4294967296) (hf2 : f < 65536) (h1 : nI F + δ = nI F') (h2 : nI f + δ = nI f') :
    ∃ d', DX nb (cnt V 12 2 x F' f' (vQ V)) d' ∧ fXX3_mark_4_108 nb (nI x) δ (XD σ d) = some (XD σ d') := by
  have hg := G_lt B
  have key := lfor (κ := Unit) (S := Nat → Nat) (fun _ k113 t => fXX3_mark_4_113 nb k113 t.1 t.2.1 t.2.2.1 t.2.2.2) (fun y d' => (nI x, δ, nI y, XD σ d')) (fun _ d' => some (XD σ d')) (vQ V) (fun y d' => DX nb (cnt V 12 2 x F' f' y) d') ?_ ?_ 0 d FU (by omega) D (by unfold FU; omega)
  · obtain ⟨d', h3, h4⟩ := key
    refine ⟨d', h3, ?_⟩
    simp only [fXX3_mark_4_108, lit, litN]
    exact h4 ()
  · intro y d' hy D'
    have W1 : (cnt V 12 2 x F' f' y).1 = V.1 := cnt_s _ _ _ _ _ _ _
    have W2 : vot (cnt V 12 2 x F' f' y) = vot V := cnt_a _ _ _ _ _ _ (by omega)
    have B' := Bas_of W1 W2 B
    have S' := Sc_of W1 S
    have eQ : vQ (cnt V 12 2 x F' f' y) = vQ V := congrFun W1 1
    have eP : vP (cnt V 12 2 x F' f' y) = vP V := congrFun W1 0
    have e3 : vFB (cnt V 12 2 x F' f' y) y = F := by
      show (cnt V 12 2 x F' f' y).2.1 12 y = F
      rw [cnt_aa, if_neg (by omega)]; exact hF y hy
    have e4 : vfb (cnt V 12 2 x F' f' y) y x = f := by
      show (cnt V 12 2 x F' f' y).2.2.1 2 y x = f
      rw [cnt_tt, if_neg (by omega)]; exact hf y hy
    have r1 := rd_FB B' D' (x := y) (by rw [eQ]; exact hy) (by rw [e3]; exact hF2)
    have r2 := rd_fb B' D' (x := y) (y := x) (by rw [eQ]; exact hy) (by rw [eQ]; exact hx) (by rw [e4]; exact hf2)
    have D2 := DX_FB B' D' y F'
    have r3 := rd_fb (V := setA (cnt V 12 2 x F' f' y) 12 y F') B' D2 (x := y) (y := x) (by show y < vQ (cnt V 12 2 x F' f' y); rw [eQ]; exact hy) (by show x < vQ (cnt V 12 2 x F' f' y); rw [eQ]; exact hx) (by show vfb (cnt V 12 2 x F' f' y) y x < _; rw [e4]; exact hf2)
    have D3 := DX_fb (V := setA (cnt V 12 2 x F' f' y) 12 y F') B' D2 (c := y) (y := x) (by show y < vQ (cnt V 12 2 x F' f' y); rw [eQ]; exact hy) (by show x < vQ (cnt V 12 2 x F' f' y); rw [eQ]; exact hx) f'
    have r3 : rd2 (wrN d' (1024 * (1 + y * vP (cnt V 12 2 x F' f' y)) + 12) 4 F') (1024 * (1 + y * vP (cnt V 12 2 x F' f' y) + 1) + (32 * x + 12)) = vfb (cnt V 12 2 x F' f' y) y x := r3
    have D3 : DX nb (setT (setA (cnt V 12 2 x F' f' y) 12 y F') 2 y x f') (wrN (wrN d' (1024 * (1 + y * vP (cnt V 12 2 x F' f' y)) + 12) 4 F') (1024 * (1 + y * vP (cnt V 12 2 x F' f' y) + 1) + (32 * x + 12)) 2 f') := D3
    rw [eP] at r1 r2 r3 D3
    rw [e3] at r1; rw [e4] at r3
    have hl0 := fx_lt B (x := y) (r := 0) (by omega) (by omega)
    have hl1 := fx_lt B (x := y) (r := 1) (by omega) (by omega)
    have e5 : 1024 * (1 + y * vP V + 1) + 32 * x + 12 = 1024 * (1 + y * vP V + 1) + (32 * x + 12) := by omega
    refine ⟨_, D3, fun _ k => ?_⟩
    simp (disch := omega) only [fXX3_mark_4_113, groups_X B S, partAt_X B S, obs, lit, litN, nI_add, nI_mul, nI_ltI', nI_leI', nI_eqI, nI_clampI, if_neg, get4_X, put4_X, get2_X, put2_X, Nat.add_zero, r1, wr4_N, wr2_N, h1, e5, r3, h2]
  · intro d' D' _ k
    simp (disch := omega) only [fXX3_mark_4_113, groups_X B S, obs, nI_ltI', nI_leI', nI_eqI, nI_clampI, if_pos]
theorem ub_set {nb : Nat} {V : VV} (B : Bas nb V) {b t : Nat} (h1 : 1 ≤ b) (h2 : b < nb) :
    bits8 (fun u => ub (setA V 0 b t) ((b - 1) / vP V) (8 * ((b - 1) % vP V / 8) + u)) = bits8 (up1 (fun u => ub V ((b - 1) / vP V) (8 * ((b - 1) % vP V / 8) + u)) ((b - 1) % vP V % 8) (if t ≠ 0 then 1 else 0)) := by
  obtain ⟨hx, he, hr⟩ := B.1.div h1 h2
  apply bits8_congr
  intro u hu
  unfold up1
  by_cases h : u = (b - 1) % vP V % 8
  · rw [if_pos h, show 8 * ((b - 1) % vP V / 8) + u = (b - 1) % vP V from by omega]
    have := ub_b (V := setA V 0 b t) (nb := nb)
    unfold ub
    show (if vP V ≤ (b - 1) % vP V ∨ vot (setA V 0 b t) (1 + (b - 1) / vP V * vP V + (b - 1) % vP V) ≠ 0 then 1 else 0) = _
    rw [show 1 + (b - 1) / vP V * vP V + (b - 1) % vP V = b from by omega, show vot (setA V 0 b t) b = t from by simp [vP, vQ, vG, vI, vot, voi, vok, vkd, vsz, vlk, vmn, vrn, vtw, vsg, vdb, vpar, vFB, vFI, vdat, vtm, vent, vdp, vbl, vrw, vfb, vfi, vdc, ves, setA, setT, setS, setR, setE, va_up, up1]]
    by_cases h3 : t ≠ 0
    · rw [if_pos h3, if_pos (.inr h3)]
    · rw [if_neg h3, if_neg (by omega)]
  · rw [if_neg h]
    unfold ub
    show (if vP V ≤ _ ∨ vot (setA V 0 b t) (1 + (b - 1) / vP V * vP V + (8 * ((b - 1) % vP V / 8) + u)) ≠ 0 then 1 else 0) = _
    rw [show vot (setA V 0 b t) (1 + (b - 1) / vP V * vP V + (8 * ((b - 1) % vP V / 8) + u)) = vot V (1 + (b - 1) / vP V * vP V + (8 * ((b - 1) % vP V / 8) + u)) from setA_n _ _ _ (by omega)]
theorem ui_set {nb : Nat} {V : VV} (B : Bas nb V) {i t : Nat} (h1 : 1 ≤ i) (h2 : i ≤ vQ V * vG V) :
    bits8 (fun u => ui (setA V 3 i t) ((i - 1) / vG V) (8 * ((i - 1) % vG V / 8) + u)) = bits8 (up1 (fun u => ui V ((i - 1) / vG V) (8 * ((i - 1) % vG V / 8) + u)) ((i - 1) % vG V % 8) (if t ≠ 0 then 1 else 0)) := by
  obtain ⟨hx, he, hr⟩ := B.1.ino h1 h2
  apply bits8_congr
  intro u hu
  unfold up1
  by_cases h : u = (i - 1) % vG V % 8
  · rw [if_pos h, show 8 * ((i - 1) % vG V / 8) + u = (i - 1) % vG V from by omega]
    unfold ui
    show (if vG V ≤ (i - 1) % vG V ∨ vkd (setA V 3 i t) ((i - 1) / vG V * vG V + (i - 1) % vG V + 1) ≠ 0 then 1 else 0) = _
    rw [show (i - 1) / vG V * vG V + (i - 1) % vG V + 1 = i from by omega, show vkd (setA V 3 i t) i = t from by simp [vP, vQ, vG, vI, vot, voi, vok, vkd, vsz, vlk, vmn, vrn, vtw, vsg, vdb, vpar, vFB, vFI, vdat, vtm, vent, vdp, vbl, vrw, vfb, vfi, vdc, ves, setA, setT, setS, setR, setE, va_up, up1]]
    by_cases h3 : t ≠ 0
    · rw [if_pos h3, if_pos (.inr h3)]
    · rw [if_neg h3, if_neg (by omega)]
  · rw [if_neg h]
    unfold ui
    show (if vG V ≤ _ ∨ vkd (setA V 3 i t) ((i - 1) / vG V * vG V + (8 * ((i - 1) % vG V / 8) + u) + 1) ≠ 0 then 1 else 0) = _
    rw [show vkd (setA V 3 i t) ((i - 1) / vG V * vG V + (8 * ((i - 1) % vG V / 8) + u) + 1) = vkd V ((i - 1) / vG V * vG V + (8 * ((i - 1) % vG V / 8) + u) + 1) from setA_n _ _ _ (by omega)]
theorem nI_m1 {v : Nat} (h : 1 ≤ v) : nI v + -nI 1 = nI (v - 1) := by
  rw [← nI_sub h, Int32.sub_eq_add_neg]
-- a free block becomes used, a used one free
def mkB (V : VV) (b t F f : Nat) : VV := cnt (setA V 0 b t) 12 2 ((b - 1) / vP V) F f (vQ V)
theorem mark4_use {nb : Nat} {V : VV} {d : Nat → Nat} {σ : XS} (B : Bas nb V) (S : Sc V σ) (D : DX nb V d) {b F f : Nat} (h1 : 1 ≤ b) (h2 : b < nb) (h3 : vot V b = 0) (hF : ∀ y, y < vQ V → vFB V y = F) (hf : ∀ y, y < vQ V → vfb V y ((b - 1) / vP V) = f) (hF1 : 1 ≤ F) (hf1 : 1 ≤ f) (hF2 : F < 4294967296) (hf2 : f < 65536) :
    ∃ d', DX nb (mkB V b 1 (F - 1) (f - 1)) d' ∧ fXX3_mark_4 nb (nI b) (nI 1) (XD σ d) = some (XD σ d') := by
  have hg := G_lt B
  obtain ⟨hx, he, hr⟩ := B.1.div h1 h2
  have hl := fx_lt B hx (r := 2) (by omega)
  have hd : (b - 1) / vP V ≤ b - 1 := Nat.div_le_self _ _
  have hbm := rd_bmp B D hx (o := (b - 1) % vP V / 8) (by omega)
  have hlt : bits8 (fun t => ub V ((b - 1) / vP V) (8 * ((b - 1) % vP V / 8) + t)) < 256 := bits8_lt (fun t => ub_le _ _ _)
  have hbit := bits8_bit (f := fun t => ub V ((b - 1) / vP V) (8 * ((b - 1) % vP V / 8) + t)) (fun t => ub_le _ _ _) (t := (b - 1) % vP V % 8) (by omega)
  have hset := bits8_set (f := fun u => ub V ((b - 1) / vP V) (8 * ((b - 1) % vP V / 8) + u)) 1 (t := (b - 1) % vP V % 8) (by omega)
  have hs2 := ub_set B (t := 1) h1 h2
  rw [show 8 * ((b - 1) % vP V / 8) + (b - 1) % vP V % 8 = (b - 1) % vP V from by omega, ub_b B h1 h2, if_neg (by omega)] at hbit
  simp only [show 8 * ((b - 1) % vP V / 8) + (b - 1) % vP V % 8 = (b - 1) % vP V from by omega, ub_b B h1 h2, if_neg (show ¬ vot V b ≠ 0 by omega), Nat.zero_mul, Nat.add_zero, Nat.one_mul] at hset
  rw [if_pos (by omega), hset] at hs2
  have D1 := DX_bitB B D (t := 1) h1 h2 (by omega) (by omega)
  rw [hs2] at D1
  have B1 : Bas nb (setA V 0 b 1) := by
    obtain ⟨b1, b2, b3, b4⟩ := B
    have e0 : vot (setA V 0 b 1) b = 1 := by simp [vP, vQ, vG, vI, vot, voi, vok, vkd, vsz, vlk, vmn, vrn, vtw, vsg, vdb, vpar, vFB, vFI, vdat, vtm, vent, vdp, vbl, vrw, vfb, vfi, vdc, ves, setA, setT, setS, setR, setE, va_up, up1]
    have e : ∀ c, c ≠ b → vot (setA V 0 b 1) c = vot V c := fun c h => by simp [vP, vQ, vG, vI, vot, voi, vok, vkd, vsz, vlk, vmn, vrn, vtw, vsg, vdb, vpar, vFB, vFI, vdat, vtm, vent, vdp, vbl, vrw, vfb, vfi, vdc, ves, setA, setT, setS, setR, setE, va_up, up1, h]
    refine ⟨b1, fun c hc1 hc2 => ?_, by rw [e _ (by omega)]; exact b3, fun c hc => by rw [e _ (by omega)]; exact b4 c hc⟩
    show (c - 1) % vP V < 4 + vG V / 8 ↔ _
    by_cases h : c = b
    · subst h; rw [e0, b2 _ hc1 hc2, h3]; omega
    · rw [e _ h]; exact b2 c hc1 hc2
  obtain ⟨d', D2, h4⟩ := mark4_L (V := setA V 0 b 1) (σ := σ) B1 S D1 (x := (b - 1) / vP V) (F := F) (f := f) (F' := F - 1) (f' := f - 1) (δ := -nI 1) hx hF hf hF2 hf2 (nI_m1 hF1) (nI_m1 hf1)
  refine ⟨d', D2, ?_⟩
  simp (disch := omega) only [fXX3_mark_4, fXX3_mark_4_0, fXX3_mark_4_57, fXX3_mark_4_96, lit, litN, XD_s, S.1, S.2.1, S.2.2.1, S.2.2.2.1, S.2.2.2.2, nI_add, nI_mul, nI_sub_dm, n_sdm, nI_sub, nI_div, nI_ltI', nI_leI', nI_eqI, nI_clampI, if_pos, if_neg, if_true, if_false, obs, partAt_X B S, get_X, put_X, hbm, Nat.mod_eq_of_lt hlt, nI_sh31, nI_shl, Nat.one_mul, bit_or, hbit, Nat.sub_zero, wr1_N, h4]
theorem mark4_free {nb : Nat} {V : VV} {d : Nat → Nat} {σ : XS} (B : Bas nb V) (S : Sc V σ) (D : DX nb V d) {b F f : Nat} (h1 : 1 ≤ b) (h2 : b < nb) (h3 : vot V b ≠ 0) (h3' : vot V b ≠ 2) (hF : ∀ y, y < vQ V → vFB V y = F) (hf : ∀ y, y < vQ V → vfb V y ((b - 1) / vP V) = f) (hF2 : F < 4294967296) (hf2 : f < 65536) :
    ∃ d', DX nb (mkB V b 0 (F + 1) (f + 1)) d' ∧ fXX3_mark_4 nb (nI b) (nI 0) (XD σ d) = some (XD σ d') := by
  have hg := G_lt B
  obtain ⟨hx, he, hr⟩ := B.1.div h1 h2
  have hl := fx_lt B hx (r := 2) (by omega)
  have hd : (b - 1) / vP V ≤ b - 1 := Nat.div_le_self _ _
  have hbm := rd_bmp B D hx (o := (b - 1) % vP V / 8) (by omega)
  have hlt : bits8 (fun t => ub V ((b - 1) / vP V) (8 * ((b - 1) % vP V / 8) + t)) < 256 := bits8_lt (fun t => ub_le _ _ _)
  have hbit := bits8_bit (f := fun t => ub V ((b - 1) / vP V) (8 * ((b - 1) % vP V / 8) + t)) (fun t => ub_le _ _ _) (t := (b - 1) % vP V % 8) (by omega)
  have hset := bits8_set (f := fun u => ub V ((b - 1) / vP V) (8 * ((b - 1) % vP V / 8) + u)) 0 (t := (b - 1) % vP V % 8) (by omega)
  have hs2 := ub_set B (t := 0) h1 h2
  rw [show 8 * ((b - 1) % vP V / 8) + (b - 1) % vP V % 8 = (b - 1) % vP V from by omega, ub_b B h1 h2, if_pos (by omega)] at hbit
  simp only [show 8 * ((b - 1) % vP V / 8) + (b - 1) % vP V % 8 = (b - 1) % vP V from by omega, ub_b B h1 h2, if_pos (show vot V b ≠ 0 by omega), Nat.zero_mul, Nat.add_zero, Nat.one_mul] at hset
  rw [if_neg (by omega), Nat.eq_sub_of_add_eq hset] at hs2
  have D1 := DX_bitB B D (t := 0) h1 h2 (by omega) (by omega)
  rw [hs2] at D1
  have B1 : Bas nb (setA V 0 b 0) := by
    obtain ⟨b1, b2, b3, b4⟩ := B
    have e0 : vot (setA V 0 b 0) b = 0 := by simp [vP, vQ, vG, vI, vot, voi, vok, vkd, vsz, vlk, vmn, vrn, vtw, vsg, vdb, vpar, vFB, vFI, vdat, vtm, vent, vdp, vbl, vrw, vfb, vfi, vdc, ves, setA, setT, setS, setR, setE, va_up, up1]
    have e : ∀ c, c ≠ b → vot (setA V 0 b 0) c = vot V c := fun c h => by simp [vP, vQ, vG, vI, vot, voi, vok, vkd, vsz, vlk, vmn, vrn, vtw, vsg, vdb, vpar, vFB, vFI, vdat, vtm, vent, vdp, vbl, vrw, vfb, vfi, vdc, ves, setA, setT, setS, setR, setE, va_up, up1, h]
    refine ⟨b1, fun c hc1 hc2 => ?_, by rw [e _ (by omega)]; exact b3, fun c hc => by rw [e _ (by omega)]; exact b4 c hc⟩
    show (c - 1) % vP V < 4 + vG V / 8 ↔ _
    by_cases h : c = b
    · subst h; rw [e0, b2 _ hc1 hc2]; omega
    · rw [e _ h]; exact b2 c hc1 hc2
  obtain ⟨d', D2, h4⟩ := mark4_L (V := setA V 0 b 0) (σ := σ) B1 S D1 (x := (b - 1) / vP V) (F := F) (f := f) (F' := F + 1) (f' := f + 1) (δ := nI 1) hx hF hf hF2 hf2 (nI_add _ _) (nI_add _ _)
  refine ⟨d', D2, ?_⟩
  simp (disch := omega) only [fXX3_mark_4, fXX3_mark_4_0, fXX3_mark_4_57, fXX3_mark_4_96, lit, litN, XD_s, S.1, S.2.1, S.2.2.1, S.2.2.2.1, S.2.2.2.2, nI_add, nI_mul, nI_sub_dm, n_sdm, nI_sub, nI_div, nI_ltI', nI_leI', nI_eqI, nI_clampI, if_pos, if_neg, if_true, if_false, obs, partAt_X B S, get_X, put_X, hbm, Nat.mod_eq_of_lt hlt, nI_sh31, nI_shl, Nat.one_mul, bit_clr, hbit, wr1_N, h4]
theorem lowC_X {a : Nat} (nb : Nat) (σ : XS) (ha : a < 255) : ∃ t, t < 8 ∧ a / 2 ^ t % 2 = 0 ∧ (∀ u, u < t → a / 2 ^ u % 2 = 1) ∧ fXX3_lowestClear nb (nI a) σ = some (nI t, σ) := by
  have key := lmea (κ := Unit) (S := Nat) (R := Nat) (fun _ k2 t => fXX3_lowestClear_2 nb k2 t.1 t.2.1 t.2.2) (fun t => (nI a, nI t, σ)) (fun _ t => some (nI t, σ)) (fun t => t ≤ 7 ∧ ∀ u, u < t → a / 2 ^ u % 2 = 1) (fun t => t < 8 ∧ a / 2 ^ t % 2 = 0 ∧ (∀ u, u < t → a / 2 ^ u % 2 = 1)) (fun t => 7 - t) ?_ FU 0 ⟨by omega, fun u h => by omega⟩ (by unfold FU; omega)
  · obtain ⟨t, ⟨h1, h2, h3⟩, h4⟩ := key
    refine ⟨t, h1, h2, h3, ?_⟩
    simp only [fXX3_lowestClear, fXX3_lowestClear_0, lit, litN]
    exact h4 ()
  · rintro t ⟨h1, h2⟩
    by_cases h7 : t = 7
    · subst h7
      refine .inr ⟨7, ⟨by omega, ?_, h2⟩, fun _ k => ?_⟩
      · exact (by decide +kernel : ∀ a, a < 255 → (∀ u, u < 7 → a / 2 ^ u % 2 = 1) → a / 2 ^ 7 % 2 = 0) a ha h2
      · simp (disch := omega) only [fXX3_lowestClear_2, lit, litN, nI_ltI', nI_leI', nI_eqI, nI_clampI, if_pos, if_neg, if_true, if_false, obs]
    · have hb : a / 2 ^ t % 2 < 2 := Nat.mod_lt _ (by omega)
      by_cases h8 : a / 2 ^ t % 2 = 1
      · refine .inl ⟨t + 1, ⟨by omega, fun u hu => ?_⟩, by omega, fun _ k => ?_⟩
        · by_cases h9 : u = t
          · rw [h9]; exact h8
          · exact h2 u (by omega)
        · simp (disch := omega) only [fXX3_lowestClear_2, lit, litN, nI_ltI', nI_leI', nI_eqI, nI_clampI, if_pos, if_neg, if_true, if_false, obs, nI_sh31, bit_get, h8, nI_add]
      · refine .inr ⟨t, ⟨by omega, by omega, h2⟩, fun _ k => ?_⟩
        have h8 : a / 2 ^ t % 2 = 0 := by omega
        simp (disch := omega) only [fXX3_lowestClear_2, lit, litN, nI_ltI', nI_leI', nI_eqI, nI_clampI, if_pos, if_neg, if_true, if_false, obs, nI_sh31, bit_get, h8]
theorem bits8_255 {f : Nat → Nat} (h : ∀ t, f t ≤ 1) (e : bits8 f = 255) {t : Nat} (ht : t < 8) : f t = 1 := by
  have h1 := bits8_bit h ht
  rw [e] at h1
  rw [← h1]
  rcases lt8 ht with rfl | rfl | rfl | rfl | rfl | rfl | rfl | rfl <;> rfl
-- the lowest free block
def lowB (V : VV) (b : Nat) : Prop := 1 ≤ b ∧ vot V b = 0 ∧ ∀ c, 1 ≤ c → c < b → vot V c ≠ 0
theorem lowB_eq {V : VV} {b c : Nat} (h : lowB V b) (h2 : lowB V c) : b = c := by
  rcases Nat.lt_trichotomy b c with h3 | h3 | h3
  · exact absurd h.2.1 (h2.2.2 b h.1 h3)
  · exact h3
  · exact absurd h2.2.1 (h.2.2 c h2.1 h3)
theorem take4_X {nb : Nat} {V : VV} {d : Nat → Nat} {σ : XS} (B : Bas nb V) (S : Sc V σ) (D : DX nb V d) {b F f : Nat} (h2 : b < nb) (h3 : lowB V b) (hF : ∀ y, y < vQ V → vFB V y = F) (hf : ∀ y, y < vQ V → vfb V y ((b - 1) / vP V) = f) (hF1 : 1 ≤ F) (hf1 : 1 ≤ f) (hF2 : F < 4294967296) (hf2 : f < 65536) :
    ∃ d', DX nb (mkB V b 1 (F - 1) (f - 1)) d' ∧ fXX3_take_4 nb (XD σ d) = some (nI b, XD σ d') := by
  have hg := G_lt B
  obtain ⟨h1, h30, hlow⟩ := h3
  obtain ⟨hx, he, hr⟩ := B.1.div h1 h2
  have hP8 : vP V % 8 = 0 := by have := B.1.2.2.1; omega
  obtain ⟨d', D', hm⟩ := mark4_use B S D h1 h2 h30 hF hf hF1 hf1 hF2 hf2
  refine ⟨d', D', ?_⟩
  -- a byte that stands before the block's
  have hful : ∀ x o, x < vQ V → o < vP V / 8 → x * vP V + 8 * o + 7 < b - 1 → bits8 (fun t => ub V x (8 * o + t)) = 255 := by
    intro x o hxx ho hlt
    have hone : ∀ t, t < 8 → ub V x (8 * o + t) = 1 := fun t ht => by
      unfold ub
      rw [if_pos]; right
      exact hlow _ (by omega) (by omega)
    unfold bits8
    simp only [hone 0 (by omega), hone 1 (by omega), hone 2 (by omega), hone 3 (by omega), hone 4 (by omega), hone 5 (by omega), hone 6 (by omega), hone 7 (by omega)]
  have hmine : ub V ((b - 1) / vP V) ((b - 1) % vP V) = 0 := by rw [ub_b B h1 h2, if_neg (by omega)]
  generalize hX : (b - 1) / vP V = X at *
  generalize hR : (b - 1) % vP V = R at *
  have hlt : bits8 (fun t => ub V X (8 * (R / 8) + t)) < 256 := bits8_lt (fun t => ub_le _ _ _)
  have hne : bits8 (fun t => ub V X (8 * (R / 8) + t)) ≠ 255 := fun e => by
    have := bits8_255 (fun t => ub_le V X (8 * (R / 8) + t)) e (t := R % 8) (by omega)
    rw [show 8 * (R / 8) + R % 8 = R from by omega, hmine] at this
    omega
  obtain ⟨t, ht8, ht0, htu, hlc⟩ := lowC_X (a := bits8 (fun t => ub V X (8 * (R / 8) + t))) nb (XD σ d) (by omega)
  have htR : t = R % 8 := by
    rw [bits8_bit (fun t => ub_le V X _) ht8] at ht0
    rcases Nat.lt_trichotomy t (R % 8) with h | h | h
    · exfalso
      have h0 : vot V (1 + X * vP V + (8 * (R / 8) + t)) = 0 := by
        unfold ub at ht0
        by_cases hc : vP V ≤ 8 * (R / 8) + t ∨ vot V (1 + X * vP V + (8 * (R / 8) + t)) ≠ 0
        · rw [if_pos hc] at ht0; omega
        · omega
      exact hlow _ (by omega) (by omega) h0
    · exact h
    · exfalso
      have := htu (R % 8) h
      rw [bits8_bit (fun t => ub_le V X _) (by omega)] at this
      rw [show 8 * (R / 8) + R % 8 = R from by omega, hmine] at this
      omega
  -- the inner loop, in a group before the block's
  have inner1 : ∀ x, x < X → ∀ k2 : (Int32 × XS) → Option (Int32 × XS), lfix ((fun k2 k28 t => fXX3_take_4_28 nb k2 k28 t.1 t.2.1 t.2.2.1 t.2.2.2) k2) FU (nI x, nI (1024 * (1 + x * vP V + 2)), nI 0, XD σ d) = k2 (nI (x + 1), XD σ d) := by
    intro x hxX
    have hmul : (x + 1) * vP V ≤ X * vP V := Nat.mul_le_mul_right _ hxX
    rw [Nat.add_mul] at hmul
    have key := lfor (κ := (Int32 × XS) → Option (Int32 × XS)) (S := Unit) (fun k2 k28 t => fXX3_take_4_28 nb k2 k28 t.1 t.2.1 t.2.2.1 t.2.2.2) (fun o _ => (nI x, nI (1024 * (1 + x * vP V + 2)), nI o, XD σ d)) (fun k2 _ => k2 (nI (x + 1), XD σ d)) (vP V / 8) (fun _ _ => True) ?_ ?_ 0 () FU (by omega) trivial (by unfold FU; omega)
    · obtain ⟨_, _, h⟩ := key
      exact h
    · intro o _ ho _
      refine ⟨(), trivial, fun k2 k => ?_⟩
      have hl := fx_lt B (x := x) (by omega) (r := 2) (by omega)
      have hbm := rd_bmp B D (x := x) (by omega) (o := o) (by omega)
      rw [hful x o (by omega) ho (by omega)] at hbm
      simp (disch := omega) only [fXX3_take_4_28, lit, litN, XD_s, S.1, S.2.1, S.2.2.1, S.2.2.2.1, S.2.2.2.2, nI_add, nI_mul, nI_sub_dm, n_sdm, nI_sub, nI_div, nI_ltI', nI_leI', nI_eqI, nI_clampI, if_pos, if_neg, if_true, if_false, obs, get_X, hbm, Nat.reduceMod]
    · intro _ _ k2 k
      simp (disch := omega) only [fXX3_take_4_28, lit, litN, XD_s, S.1, S.2.1, S.2.2.1, S.2.2.2.1, S.2.2.2.2, nI_add, nI_mul, nI_sub_dm, n_sdm, nI_sub, nI_div, nI_ltI', nI_leI', nI_eqI, nI_clampI, if_pos, if_neg, if_true, if_false, obs]
  have inner2 : ∀ k2 : (Int32 × XS) → Option (Int32 × XS), lfix ((fun k2 k28 t => fXX3_take_4_28 nb k2 k28 t.1 t.2.1 t.2.2.1 t.2.2.2) k2) FU (nI X, nI (1024 * (1 + X * vP V + 2)), nI 0, XD σ d) = some (nI b, XD σ d') := by
    have key := lmea (κ := (Int32 × XS) → Option (Int32 × XS)) (S := Nat) (R := Unit) (fun k2 k28 t => fXX3_take_4_28 nb k2 k28 t.1 t.2.1 t.2.2.1 t.2.2.2) (fun o => (nI X, nI (1024 * (1 + X * vP V + 2)), nI o, XD σ d)) (fun _ _ => some (nI b, XD σ d')) (fun o => o ≤ R / 8) (fun _ => True) (fun o => R / 8 - o) ?_ FU 0 (by omega) (by unfold FU; omega)
    · obtain ⟨_, _, h⟩ := key
      exact h
    · intro o ho
      have hl := fx_lt B (x := X) (by omega) (r := 2) (by omega)
      have hbm := rd_bmp B D (x := X) (by omega) (o := o) (by omega)
      by_cases hoR : o = R / 8
      · subst hoR
        refine .inr ⟨(), trivial, fun k2 k => ?_⟩
        have eb : 1 + X * vP V + 8 * (R / 8) + t = b := by omega
        simp (disch := omega) only [fXX3_take_4_28, lit, litN, XD_s, S.1, S.2.1, S.2.2.1, S.2.2.2.1, S.2.2.2.2, nI_add, nI_mul, nI_sub_dm, n_sdm, nI_sub, nI_div, nI_ltI', nI_leI', nI_eqI, nI_clampI, if_pos, if_neg, if_true, if_false, obs, get_X, hbm, Nat.mod_eq_of_lt hlt, hlc, eb, hm]
      · refine .inl ⟨o + 1, by omega, by omega, fun k2 k => ?_⟩
        rw [hful X o (by omega) (by omega) (by omega)] at hbm
        simp (disch := omega) only [fXX3_take_4_28, lit, litN, XD_s, S.1, S.2.1, S.2.2.1, S.2.2.2.1, S.2.2.2.2, nI_add, nI_mul, nI_sub_dm, n_sdm, nI_sub, nI_div, nI_ltI', nI_leI', nI_eqI, nI_clampI, if_pos, if_neg, if_true, if_false, obs, get_X, hbm, Nat.reduceMod]
  have key := lmea (κ := Unit) (S := Nat) (R := Unit) (fun _ k2 t => fXX3_take_4_2 nb k2 t.1 t.2) (fun x => (nI x, XD σ d)) (fun _ _ => some (nI b, XD σ d')) (fun x => x ≤ X) (fun _ => True) (fun x => X - x) ?_ FU 0 (by omega) (by unfold FU; omega)
  · obtain ⟨_, _, h⟩ := key
    simp only [fXX3_take_4, fXX3_take_4_0, lit, litN]
    exact h ()
  · intro x hxX
    by_cases hxe : x = X
    · subst hxe
      refine .inr ⟨(), trivial, fun _ k => ?_⟩
      simp (disch := omega) only [fXX3_take_4_2, groups_X B S, partAt_X B S, lit, litN, nI_ltI', nI_leI', nI_eqI, nI_clampI, if_pos, if_neg, if_true, if_false, obs]
      exact inner2 k
    · refine .inl ⟨x + 1, by omega, by omega, fun _ k => ?_⟩
      simp (disch := omega) only [fXX3_take_4_2, groups_X B S, partAt_X B S, lit, litN, nI_ltI', nI_leI', nI_eqI, nI_clampI, if_pos, if_neg, if_true, if_false, obs]
      exact inner1 x (by omega) k
