def OwnC (nb : Nat) (V : VV) : Prop :=
  (∀ i k, live V i → k < vmn V i → 1 ≤ vbl V i k ∧ vbl V i k < nb ∧ vot V (vbl V i k) = 3 ∧ voi V (vbl V i k) = i ∧ vok V (vbl V i k) = k) ∧
  (∀ b, b < nb → vot V b = 3 → live V (voi V b) ∧ vok V b < vmn V (voi V b) ∧ vbl V (voi V b) (vok V b) = b) ∧
  (∀ i, live V i → vsg V i ≠ 0 → vsg V i < nb ∧ vot V (vsg V i) = 4 ∧ voi V (vsg V i) = i) ∧
  (∀ b, b < nb → vot V b = 4 → live V (voi V b) ∧ vsg V (voi V b) = b) ∧
  (∀ i, live V i → vdb V i ≠ 0 → vdb V i < nb ∧ vot V (vdb V i) = 5 ∧ voi V (vdb V i) = i) ∧
  (∀ b, b < nb → vot V b = 5 → live V (voi V b) ∧ vdb V (voi V b) = b) ∧
  (∀ i r, live V i → r < vrn V i → 1 ≤ vrw V i r ∧ vrw V i r < nb ∧ vot V (vrw V i r) = 6 ∧ voi V (vrw V i r) = i ∧ vok V (vrw V i r) = r) ∧
  (∀ b, b < nb → vot V b = 6 → live V (voi V b) ∧ vok V b < vrn V (voi V b) ∧ vrw V (voi V b) (vok V b) = b)
theorem tk_t {V : VV} {b c : Nat} : vot (gZ V b) c = if c = b then 1 else vot V c := mkB_t V b 1 _ _ c
theorem gZ_a {V : VV} {b k : Nat} (h : k ≠ 0) (h2 : k ≠ 12) (h3 : k ≠ 15) : (gZ V b).2.1 k = V.2.1 k := by
  show va_up (tkB V b).2.1 15 _ k = _
  rw [va_up_ne _ _ h3]; exact mkB_a _ _ _ _ _ h h2
theorem gZ_kd (V : VV) (b : Nat) : vkd (gZ V b) = vkd V := gZ_a (by omega) (by omega) (by omega)
theorem gZ_tw (V : VV) (b : Nat) : vtw (gZ V b) = vtw V := gZ_a (by omega) (by omega) (by omega)
theorem gZ_m {V : VV} {b k : Nat} (h : k ≠ 2) : (gZ V b).2.2.1 k = V.2.2.1 k := mkB_m _ _ _ _ _ h
theorem gZ_s {V : VV} {b : Nat} : (gZ V b).1 = V.1 := mkB_s _ _ _ _ _
theorem gZ_dat {V : VV} {b : Nat} (a : Nat) : vdat (gZ V b) a = wrF (vdat V) (1024 * b) (1024 * b + 1024) 0 a := by
  show va_up (tkB V b).2.1 15 (wrF (vdat (tkB V b)) (1024 * b) (1024 * b + 1024) 0) 15 a = _
  rw [va_up_self, show vdat (tkB V b) = vdat V from mkB_a _ _ _ _ _ (by omega) (by omega)]
theorem Bas_gZ {nb : Nat} {V : VV} (B : Bas nb V) {b : Nat} (hb : b < nb) (hlow : lowB V b) : Bas nb (gZ V b) := by
  have := hlow.2.1
  exact Bas_of (V := tkB V b) rfl rfl (Bas_mkB B _ _ hlow.1 hb (by omega) (by omega))
theorem gain_X {nb : Nat} {V : VV} {d : Nat → Nat} {σ : XS} (B : Bas nb V) (S : Sc V σ) (D : DX nb V d) (C : CntB V) {i b a t k : Nat} (V3 : VV) (hb : b < nb) (hlow : lowB V b) (h1 : 1 ≤ i) (h2 : i ≤ vQ V * vG V) (hl : live V i) (htw : vtw V i < 2147483000)
    (ha : a + 3 < nb * 1024) (hab : a / 1024 ≠ b) (hab2 : (a + 3) / 1024 ≠ b) (hput : ∀ d1, DX nb (gZ V b) d1 → DX nb V3 (wrN d1 a 4 b))
    (e1 : V3.1 = V.1) (e2 : ∀ c, vot V3 c = vot (gZ V b) c) (e3 : vkd V3 = vkd V) (e4 : vtw V3 = vtw V) (ht : t ≠ 0) (ht2 : t ≠ 2) (hz : ∀ o, o < 1024 → img nb (vOwn V3 b t i k) b o = 0) :
    ∃ d', DX nb (setA (vOwn V3 b t i k) 8 i (vtw V i + 2)) d' ∧ fXX4_gain_6 nb (nI (inoA (vP V) (vG V) i)) (nI a) (XD σ d) = some (XD σ d') := by
  have hg := G_lt B
  obtain ⟨d1, D1, B1, C1, _, hT⟩ := take4_C B S D C hb hlow
  have hot : vot (tkB V b) b = 1 := by unfold tkB; rw [mkB_t, if_pos rfl]
  have D2 : DX nb (gZ V b) (wrF d1 (1024 * b) (1024 * b + 1024) 0) := by
    refine DX_dat (V := tkB V b) D1 (b0 := b) (by omega) (fun h => by omega) (fun c hc => ⟨?_, ?_⟩)
    · unfold wrF; rw [if_neg (by omega)]
    · unfold wrF; rw [if_neg (by omega)]
  have D3 := hput _ D2
  have hb3 : vot V3 b = 1 := by rw [e2, tk_t, if_pos rfl]
  have D4 : DX nb (vOwn V3 b t i k) (wrN (wrF d1 (1024 * b) (1024 * b + 1024) 0) a 4 b) := by
    refine DX_own D3 hb3 ht (fun o ho => ?_)
    rw [hz o ho]; unfold wrN wrF
    rw [if_neg (by omega), if_pos (by omega)]
  have eP : vP V3 = vP V := congrFun e1 0
  have eQ : vQ V3 = vQ V := congrFun e1 1
  have eG : vG V3 = vG V := congrFun e1 2
  have B4 : Bas nb (vOwn V3 b t i k) := by
    refine ⟨?_, fun c hc1 hc2 => ?_, ?_, fun c hc => ?_⟩
    · show Lay nb (vP V3) (vQ V3) (vG V3); rw [eP, eQ, eG]; exact B.1
    · show (c - 1) % vP V3 < 4 + vG V3 / 8 ↔ _
      rw [eP, eG, vOwn_t, B.2.1 c hc1 hc2]
      by_cases h : c = b
      · subst h; rw [if_pos rfl, hlow.2.1]; omega
      · rw [if_neg h, e2, tk_t, if_neg h]
    · have := hlow.1
      rw [vOwn_t, if_neg (by omega), e2, tk_t, if_neg (by omega)]; exact B.2.2.1
    · rw [vOwn_t, if_neg (by omega), e2, tk_t, if_neg (by omega)]; exact B.2.2.2 c hc
  have hl4 : live (vOwn V3 b t i k) i := by show vkd V3 i = 1 ∨ vkd V3 i = 2; rw [e3]; exact hl
  have tw4 : vtw (vOwn V3 b t i k) i = vtw V i := congrFun e4 i
  have h24 : i ≤ vQ (vOwn V3 b t i k) * vG (vOwn V3 b t i k) := by show i ≤ vQ V3 * vG V3; rw [eQ, eG]; exact h2
  have r4 := rd_tw B4 D4 h1 h24 hl4 (by rw [tw4]; omega)
  have D5 := DX_tw B4 D4 h1 h24 hl4 (vtw V i + 2)
  have r4 : rd4 (wrN (wrF d1 (1024 * b) (1024 * b + 1024) 0) a 4 b) (inoA (vP V3) (vG V3) i + 28) = vtw (vOwn V3 b t i k) i := r4
  have D5 : DX nb (setA (vOwn V3 b t i k) 8 i (vtw V i + 2)) (wrN (wrN (wrF d1 (1024 * b) (1024 * b + 1024) 0) a 4 b) (inoA (vP V3) (vG V3) i + 28) 4 (vtw V i + 2)) := D5
  rw [eP, eG] at r4 D5
  rw [tw4] at r4
  refine ⟨_, D5, ?_⟩
  have hA := inoA_lt B h1 h2
  have hne : ¬ nI b = -nI 1 := by
    have : -nI 1 = nI 4294967295 := by decide +kernel
    rw [this]; intro e; have := nI_inj (by omega) (by omega) e; omega
  simp (disch := omega) only [fXX4_gain_6_0, fXX4_gain_6, hT, obs, lit, litN, if_neg hne, nI_mul, nI_add, m1024, fill_X, put4_X, get4_X, wr4_N, r4]
theorem ptr_of {V W : VV} (h1 : vmn W = vmn V) (h2 : vbl W = vbl V) (i k : Nat) : ptr W i k = ptr V i k := by unfold ptr; rw [h1, h2]
theorem gZ_ptr {V : VV} {b : Nat} (i k : Nat) : ptr (gZ V b) i k = ptr V i k := ptr_of (gZ_a (by omega) (by omega) (by omega)) (gZ_m (by omega)) i k
theorem bt0 (j : Nat) : byt 0 j = 0 := by simp [byt]
theorem blk_ino {nb : Nat} {V : VV} (B : Bas nb V) {i : Nat} (h1 : 1 ≤ i) (h2 : i ≤ vQ V * vG V) {o : Nat} (ho : o < 128) {b : Nat} (hb : vot V b ≠ 2) : (inoA (vP V) (vG V) i + o) / 1024 ≠ b := by
  obtain ⟨b', o', hb', hb1, ho', e, hr, hr2, hx, hm⟩ := B.1.at h1 h2 ho
  intro h
  have : b = b' := by omega
  rw [this] at hb
  exact hb ((B.2.1 b' hb1 hb').mp hr2)
theorem gS_X {nb : Nat} {V : VV} {d : Nat → Nat} {σ : XS} (B : Bas nb V) (S : Sc V σ) (D : DX nb V d) (C : CntB V) {i b : Nat} (hb : b < nb) (hlow : lowB V b) (h1 : 1 ≤ i) (h2 : i ≤ vQ V * vG V) (hl : live V i) (htw : vtw V i < 2147483000) (hm : vmn V i ≤ 12) :
    ∃ d', DX nb (gS V i b) d' ∧ fXX4_gain_6 nb (nI (inoA (vP V) (vG V) i)) (nI (inoA (vP V) (vG V) i + 88)) (XD σ d) = some (XD σ d') := by
  have hA := inoA_lt B h1 h2
  have h0 := hlow.2.1
  refine gain_X B S D C (t := 4) (k := 0) (setA (gZ V b) 9 i b) hb hlow h1 h2 hl htw (by omega) (blk_ino B h1 h2 (by omega) (by omega)) (blk_ino (o := 91) B h1 h2 (by omega) (by omega)) ?_ gZ_s (fun c => rfl) (gZ_kd V b) (gZ_tw V b) (by omega) (by omega) ?_
  · intro d1 D1
    have eP : vP (gZ V b) = vP V := congrFun gZ_s 0
    have eQ : vQ (gZ V b) = vQ V := congrFun gZ_s 1
    have eG : vG (gZ V b) = vG V := congrFun gZ_s 2
    have ek : vkd (gZ V b) = vkd V := gZ_a (by omega) (by omega) (by omega)
    have := DX_sg (Bas_gZ B hb hlow) D1 (i := i) h1 (by rw [eQ, eG]; exact h2) (by unfold live; rw [ek]; exact hl) b
    rw [eP, eG] at this; exact this
  · intro o ho
    rw [img_4 _ (by rw [vOwn_t, if_pos rfl]), vOwn_i, if_pos rfl]
    have : ptr (vOwn (setA (gZ V b) 9 i b) b 4 i 0) i (12 + o / 4) = 0 := by
      rw [show ptr (vOwn (setA (gZ V b) 9 i b) b 4 i 0) i (12 + o / 4) = ptr (gZ V b) i (12 + o / 4) from rfl, gZ_ptr, ptr, if_neg (by omega)]
    rw [this, bt0]
theorem gD_X {nb : Nat} {V : VV} {d : Nat → Nat} {σ : XS} (B : Bas nb V) (S : Sc V σ) (D : DX nb V d) (C : CntB V) {i b : Nat} (hb : b < nb) (hlow : lowB V b) (h1 : 1 ≤ i) (h2 : i ≤ vQ V * vG V) (hl : live V i) (htw : vtw V i < 2147483000) (hm : vrn V i = 0) :
    ∃ d', DX nb (gD V i b) d' ∧ fXX4_gain_6 nb (nI (inoA (vP V) (vG V) i)) (nI (inoA (vP V) (vG V) i + 92)) (XD σ d) = some (XD σ d') := by
  have hA := inoA_lt B h1 h2
  have h0 := hlow.2.1
  refine gain_X B S D C (t := 5) (k := 0) (setA (gZ V b) 10 i b) hb hlow h1 h2 hl htw (by omega) (blk_ino B h1 h2 (by omega) (by omega)) (blk_ino (o := 95) B h1 h2 (by omega) (by omega)) ?_ gZ_s (fun c => rfl) (gZ_kd V b) (gZ_tw V b) (by omega) (by omega) ?_
  · intro d1 D1
    have eP : vP (gZ V b) = vP V := congrFun gZ_s 0
    have eQ : vQ (gZ V b) = vQ V := congrFun gZ_s 1
    have eG : vG (gZ V b) = vG V := congrFun gZ_s 2
    have ek : vkd (gZ V b) = vkd V := gZ_a (by omega) (by omega) (by omega)
    have := DX_db (Bas_gZ B hb hlow) D1 (i := i) h1 (by rw [eQ, eG]; exact h2) (by unfold live; rw [ek]; exact hl) b
    rw [eP, eG] at this; exact this
  · intro o ho
    rw [img_5 _ (by rw [vOwn_t, if_pos rfl]), vOwn_i, if_pos rfl]
    have e : vrn (vOwn (setA (gZ V b) 10 i b) b 5 i 0) i = 0 := by
      show (gZ V b).2.1 7 i = 0
      rw [gZ_a (by omega) (by omega) (by omega)]; exact hm
    rw [e, if_neg (by omega), bt0]
theorem fx_gZ {nb : Nat} {V W : VV} (hS : ∀ x, supF nb W x = supF nb V x) (hQ : vQ W = vQ V) (hd : ∀ x y, dscF W x y = dscF V x y) (hu : ∀ x k, ub W x k = ub V x k) (hi : ∀ x k, ui W x k = ui V x k) :
    ∀ x r o b, r < 4 → fx nb W x r o b = fx nb V x r o b := fx_low hS hQ hd hu hi
theorem gR_X {nb : Nat} {V : VV} {d : Nat → Nat} {σ : XS} (B : Bas nb V) (S : Sc V σ) (D : DX nb V d) (C : CntB V) (O : OwnC nb V) {i b : Nat} (hb : b < nb) (hlow : lowB V b) (h1 : 1 ≤ i) (h2 : i ≤ vQ V * vG V) (hl : live V i) (htw : vtw V i < 2147483000) (hdb : vdb V i ≠ 0) (hr : vrn V i < 256) (hm : vmn V i ≤ 268 + 256 * vrn V i) :
    ∃ d', DX nb (gR V i b) d' ∧ fXX4_gain_6 nb (nI (inoA (vP V) (vG V) i)) (nI (1024 * vdb V i + 4 * vrn V i)) (XD σ d) = some (XD σ d') := by
  have hA := inoA_lt B h1 h2
  have h0 := hlow.2.1
  obtain ⟨o1, o2, o3, o4, o5, o6, o7, o8⟩ := O
  obtain ⟨hd1, hd2, hd3⟩ := o5 i hl hdb
  have hne : vdb V i ≠ b := fun e => by rw [e] at hd2; omega
  refine gain_X B S D C (t := 6) (k := vrn V i) (setA (setT (gZ V b) 1 i (vrn V i) b) 7 i (vrn V i + 1)) hb hlow h1 h2 hl htw (by omega) (by omega) (by omega) ?_ gZ_s (fun c => rfl) (gZ_kd V b) (gZ_tw V b) (by omega) (by omega) ?_
  · intro d1 D1
    have edb : vdb (gZ V b) = vdb V := gZ_a (by omega) (by omega) (by omega)
    have ern : vrn (gZ V b) = vrn V := gZ_a (by omega) (by omega) (by omega)
    have erw : vrw (gZ V b) = vrw V := gZ_m (by omega)
    have := DX_rptr (V := gZ V b) (V' := setA (setT (gZ V b) 1 i (vrn V i) b) 7 i (vrn V i + 1)) (i := i) (r := vrn V i) (v := b) D1 hr (by rw [edb]; exact hd1) ?_ rfl rfl rfl rfl rfl rfl rfl (fun _ => rfl) (fun _ _ => rfl) (fx_low (fun _ => rfl) rfl (fun _ _ => rfl) (fun _ _ => rfl) (fun _ _ => rfl)) ?_
    · rw [edb] at this; exact this
    · intro c hc
      rw [edb, tk_t, show voi (gZ V b) = voi V from gZ_a (by omega) (by omega) (by omega)]
      constructor
      · rintro ⟨h, h'⟩
        by_cases hcb : c = b
        · rw [if_pos hcb] at h; omega
        · rw [if_neg hcb] at h
          have := o6 c hc h
          rw [h'] at this; exact this.2.symm
      · intro h
        subst h
        rw [if_neg hne]; exact ⟨hd2, hd3⟩
    · intro j m
      have e1 : ∀ j, vrn (setA (setT (gZ V b) 1 i (vrn V i) b) 7 i (vrn V i + 1)) j = if j = i then vrn V i + 1 else vrn V j := fun j => by
        by_cases h : j = i
        · rw [if_pos h, h]; exact setA_e _ _ _ _
        · rw [if_neg h, ← ern]; exact setA_n _ _ _ h
      have e2 : ∀ j m, vrw (setA (setT (gZ V b) 1 i (vrn V i) b) 7 i (vrn V i + 1)) j m = if j = i ∧ m = vrn V i then b else vrw V j m := fun j m => by
        by_cases h : j = i ∧ m = vrn V i
        · rw [if_pos h, h.1, h.2]; exact setT_e _ _ _ _ _
        · rw [if_neg h, ← erw]; exact setT_n _ _ _ (Decidable.not_and_iff_or_not.mp h)
      unfold rptr
      rw [e1, e2, ern, erw]
      by_cases h : j = i
      · subst h
        by_cases h' : m = vrn V j
        · simp only [h', and_self, if_true, show vrn V j < vrn V j + 1 by omega]
        · by_cases h'' : m < vrn V j
          · simp only [h', h'', and_false, if_false, if_true, show m < vrn V j + 1 by omega]
          · simp only [h', h'', and_false, if_false, if_true, show ¬ m < vrn V j + 1 by omega]
      · simp only [h, false_and, if_false]
  · intro o ho
    rw [img_6 _ (by rw [vOwn_t, if_pos rfl]), vOwn_i, if_pos rfl, vOwn_k, if_pos rfl]
    have : ptr (vOwn (setA (setT (gZ V b) 1 i (vrn V i) b) 7 i (vrn V i + 1)) b 6 i (vrn V i)) i (268 + 256 * vrn V i + o / 4) = 0 := by
      rw [show ptr (vOwn (setA (setT (gZ V b) 1 i (vrn V i) b) 7 i (vrn V i + 1)) b 6 i (vrn V i)) i (268 + 256 * vrn V i + o / 4) = ptr (gZ V b) i (268 + 256 * vrn V i + o / 4) from rfl, gZ_ptr, ptr, if_neg (by omega)]
    rw [this, bt0]
theorem gB_X {nb : Nat} {V : VV} {d : Nat → Nat} {σ : XS} (B : Bas nb V) (S : Sc V σ) (D : DX nb V d) (C : CntB V) (O : OwnC nb V) {i b : Nat} (hb : b < nb) (hlow : lowB V b) (h1 : 1 ≤ i) (h2 : i ≤ vQ V * vG V) (hl : live V i) (htw : vtw V i < 2147483000) (hn : vmn V i < 65804) (hsg : 12 ≤ vmn V i → vmn V i < 268 → vsg V i ≠ 0) (hrw : 268 ≤ vmn V i → (vmn V i - 268) / 256 < vrn V i) :
    ∃ d', DX nb (gB V i b) d' ∧ fXX4_gain_6 nb (nI (inoA (vP V) (vG V) i)) (nI (ptrA V i (vmn V i))) (XD σ d) = some (XD σ d') := by
  have hA := inoA_lt B h1 h2
  have h0 := hlow.2.1
  obtain ⟨o1, o2, o3, o4, o5, o6, o7, o8⟩ := O
  have esg : vsg (gZ V b) = vsg V := gZ_a (by omega) (by omega) (by omega)
  have emn : vmn (gZ V b) = vmn V := gZ_a (by omega) (by omega) (by omega)
  have eoi : voi (gZ V b) = voi V := gZ_a (by omega) (by omega) (by omega)
  have eok : vok (gZ V b) = vok V := gZ_a (by omega) (by omega) (by omega)
  have ebl : vbl (gZ V b) = vbl V := gZ_m (by omega)
  have erw : vrw (gZ V b) = vrw V := gZ_m (by omega)
  have eP : vP (gZ V b) = vP V := congrFun gZ_s 0
  have eQ : vQ (gZ V b) = vQ V := congrFun gZ_s 1
  have eG : vG (gZ V b) = vG V := congrFun gZ_s 2
  have ek : vkd (gZ V b) = vkd V := gZ_a (by omega) (by omega) (by omega)
  have epa : ptrA (gZ V b) i (vmn V i) = ptrA V i (vmn V i) := by unfold ptrA; rw [eP, eG, esg, erw]
  have hwhere : ptrA V i (vmn V i) + 3 < nb * 1024 ∧ ptrA V i (vmn V i) / 1024 ≠ b ∧ (ptrA V i (vmn V i) + 3) / 1024 ≠ b := by
    unfold ptrA
    by_cases c1 : vmn V i < 12
    · rw [if_pos c1]
      exact ⟨by omega, blk_ino B h1 h2 (by omega) (by omega), by rw [Nat.add_assoc]; exact blk_ino B h1 h2 (by omega) (by omega)⟩
    · rw [if_neg c1]
      by_cases c2 : vmn V i < 268
      · rw [if_pos c2]
        obtain ⟨q1, q2, q3⟩ := o3 i hl (hsg (by omega) c2)
        have hne : vsg V i ≠ b := fun e => by rw [e] at q2; omega
        omega
      · rw [if_neg c2]
        obtain ⟨q0, q1, q2, q3⟩ := o7 i _ hl (hrw (by omega))
        have hne : vrw V i ((vmn V i - 268) / 256) ≠ b := fun e => by rw [e] at q2; omega
        omega
  refine gain_X B S D C (t := 3) (k := vmn V i) (setA (setT (gZ V b) 0 i (vmn V i) b) 6 i (vmn V i + 1)) hb hlow h1 h2 hl htw hwhere.1 hwhere.2.1 hwhere.2.2 ?_ gZ_s (fun c => rfl) (gZ_kd V b) (gZ_tw V b) (by omega) (by omega) ?_
  · intro d1 D1
    have hP : Ptr nb (gZ V b) i (vmn V i) := by
      refine ⟨hn, fun c1 c2 => ?_, fun c1 => ?_⟩
      · obtain ⟨q1, q2, q3⟩ := o3 i hl (hsg c1 c2)
        have hne : vsg V i ≠ b := fun e => by rw [e] at q2; omega
        rw [esg, eoi]
        refine ⟨q1, fun c hc => ⟨?_, ?_⟩⟩
        · rintro ⟨h, h'⟩
          rw [tk_t] at h
          by_cases hcb : c = b
          · rw [if_pos hcb] at h; omega
          · rw [if_neg hcb] at h
            have := o4 c hc h; rw [h'] at this; exact this.2.symm
        · intro h; subst h; rw [tk_t, if_neg hne]; exact ⟨q2, q3⟩
      · obtain ⟨q0, q1, q2, q3, q4⟩ := o7 i _ hl (hrw c1)
        have hne : vrw V i ((vmn V i - 268) / 256) ≠ b := fun e => by rw [e] at q2; omega
        rw [erw, eoi, eok]
        refine ⟨q1, fun c hc => ⟨?_, ?_⟩⟩
        · rintro ⟨h, h', h''⟩
          rw [tk_t] at h
          by_cases hcb : c = b
          · rw [if_pos hcb] at h; omega
          · rw [if_neg hcb] at h
            have := o8 c hc h; rw [h', h''] at this; exact this.2.2.symm
        · intro h; subst h; rw [tk_t, if_neg hne]; exact ⟨q2, q3, q4⟩
    have := DX_ptr (V := gZ V b) (V' := setA (setT (gZ V b) 0 i (vmn V i) b) 6 i (vmn V i + 1)) (i := i) (k := vmn V i) (v := b) (Bas_gZ B hb hlow) D1 h1 (by rw [eQ, eG]; exact h2) (by unfold live; rw [ek]; exact hl) hP rfl rfl rfl rfl rfl rfl rfl (fun _ => rfl) rfl rfl (fx_low (fun _ => rfl) rfl (fun _ _ => rfl) (fun _ _ => rfl) (fun _ _ => rfl)) ?_
    · rw [epa] at this; exact this
    · intro j m
      have e1 : ∀ j, vmn (setA (setT (gZ V b) 0 i (vmn V i) b) 6 i (vmn V i + 1)) j = if j = i then vmn V i + 1 else vmn V j := fun j => by
        by_cases h : j = i
        · rw [if_pos h, h]; exact setA_e _ _ _ _
        · rw [if_neg h, ← emn]; exact setA_n _ _ _ h
      have e2 : ∀ j m, vbl (setA (setT (gZ V b) 0 i (vmn V i) b) 6 i (vmn V i + 1)) j m = if j = i ∧ m = vmn V i then b else vbl V j m := fun j m => by
        by_cases h : j = i ∧ m = vmn V i
        · rw [if_pos h, h.1, h.2]; exact setT_e _ _ _ _ _
        · rw [if_neg h, ← ebl]; exact setT_n _ _ _ (Decidable.not_and_iff_or_not.mp h)
      unfold ptr
      rw [e1, e2, emn, ebl]
      by_cases h : j = i
      · subst h
        by_cases h' : m = vmn V j
        · simp only [h', and_self, if_true, show vmn V j < vmn V j + 1 by omega]
        · by_cases h'' : m < vmn V j
          · simp only [h', h'', and_false, if_false, if_true, show m < vmn V j + 1 by omega]
          · simp only [h', h'', and_false, if_false, if_true, show ¬ m < vmn V j + 1 by omega]
      · simp only [h, false_and, if_false]
  · intro o ho
    rw [img_3 _ (by rw [vOwn_t, if_pos rfl])]
    show vdat (gZ V b) (1024 * b + o) = 0
    rw [gZ_dat]; unfold wrF; rw [if_pos (by omega)]
