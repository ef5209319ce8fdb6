theorem mark5_L {nb : Nat} {V : VV} {d : Nat → Nat} {σ : XS} (B : Bas nb V) (S : Sc V σ) (D : DX nb V d) {x F f F' f' : Nat} {δ : Int32} (hx : x < vQ V) (hF : ∀ y, y < vQ V → vFI V y = F) (hf : ∀ y, y < vQ V → vfi V y x = f) (hF2 : F < 4294967296) (hf2 : f < 65536) (h1 : nI F + δ = nI F') (h2 : nI f + δ = nI f') :
    ∃ d', DX nb (cnt V 13 3 x F' f' (vQ V)) d' ∧ fXX3_mark_5_108 nb (nI x) δ (XD σ d) = some (XD σ d') := by
  have hg := G_lt B
  have key := lfor (κ := Unit) (S := Nat → Nat) (fun _ k113 t => fXX3_mark_5_113 nb k113 t.1 t.2.1 t.2.2.1 t.2.2.2) (fun y d' => (nI x, δ, nI y, XD σ d')) (fun _ d' => some (XD σ d')) (vQ V) (fun y d' => DX nb (cnt V 13 3 x F' f' y) d') ?_ ?_ 0 d FU (by omega) D (by unfold FU; omega)
  · obtain ⟨d', h3, h4⟩ := key
    refine ⟨d', h3, ?_⟩
    simp only [fXX3_mark_5_108, lit, litN]
    exact h4 ()
  · intro y d' hy D'
    have W1 : (cnt V 13 3 x F' f' y).1 = V.1 := cnt_s _ _ _ _ _ _ _
    have W2 : vot (cnt V 13 3 x F' f' y) = vot V := cnt_a _ _ _ _ _ _ (by omega)
    have B' := Bas_of W1 W2 B
    have S' := Sc_of W1 S
    have eQ : vQ (cnt V 13 3 x F' f' y) = vQ V := congrFun W1 1
    have eP : vP (cnt V 13 3 x F' f' y) = vP V := congrFun W1 0
    have e3 : vFI (cnt V 13 3 x F' f' y) y = F := by
      show (cnt V 13 3 x F' f' y).2.1 13 y = F
      rw [cnt_aa, if_neg (by omega)]; exact hF y hy
    have e4 : vfi (cnt V 13 3 x F' f' y) y x = f := by
      show (cnt V 13 3 x F' f' y).2.2.1 3 y x = f
      rw [cnt_tt, if_neg (by omega)]; exact hf y hy
    have r1 := rd_FI B' D' (x := y) (by rw [eQ]; exact hy) (by rw [e3]; exact hF2)
    have r2 := rd_fi B' D' (x := y) (y := x) (by rw [eQ]; exact hy) (by rw [eQ]; exact hx) (by rw [e4]; exact hf2)
    have D2 := DX_FI B' D' y F'
    have r3 := rd_fi (V := setA (cnt V 13 3 x F' f' y) 13 y F') B' D2 (x := y) (y := x) (by show y < vQ (cnt V 13 3 x F' f' y); rw [eQ]; exact hy) (by show x < vQ (cnt V 13 3 x F' f' y); rw [eQ]; exact hx) (by show vfi (cnt V 13 3 x F' f' y) y x < _; rw [e4]; exact hf2)
    have D3 := DX_fi (V := setA (cnt V 13 3 x F' f' y) 13 y F') B' D2 (c := y) (y := x) (by show y < vQ (cnt V 13 3 x F' f' y); rw [eQ]; exact hy) (by show x < vQ (cnt V 13 3 x F' f' y); rw [eQ]; exact hx) f'
    have r3 : rd2 (wrN d' (1024 * (1 + y * vP (cnt V 13 3 x F' f' y)) + 16) 4 F') (1024 * (1 + y * vP (cnt V 13 3 x F' f' y) + 1) + (32 * x + 14)) = vfi (cnt V 13 3 x F' f' y) y x := r3
    have D3 : DX nb (setT (setA (cnt V 13 3 x F' f' y) 13 y F') 3 y x f') (wrN (wrN d' (1024 * (1 + y * vP (cnt V 13 3 x F' f' y)) + 16) 4 F') (1024 * (1 + y * vP (cnt V 13 3 x F' f' y) + 1) + (32 * x + 14)) 2 f') := D3
    rw [eP] at r1 r2 r3 D3
    rw [e3] at r1; rw [e4] at r3
    have hl0 := fx_lt B (x := y) (r := 0) (by omega) (by omega)
    have hl1 := fx_lt B (x := y) (r := 1) (by omega) (by omega)
    have e5 : 1024 * (1 + y * vP V + 1) + 32 * x + 14 = 1024 * (1 + y * vP V + 1) + (32 * x + 14) := by omega
    refine ⟨_, D3, fun _ k => ?_⟩
    simp (disch := omega) only [fXX3_mark_5_113, groups_X B S, partAt_X B S, obs, lit, litN, nI_add, nI_mul, nI_ltI', nI_leI', nI_eqI, nI_clampI, if_neg, get4_X, put4_X, get2_X, put2_X, Nat.add_zero, r1, wr4_N, wr2_N, h1, e5, r3, h2]
  · intro d' D' _ k
    simp (disch := omega) only [fXX3_mark_5_113, groups_X B S, obs, nI_ltI', nI_leI', nI_eqI, nI_clampI, if_pos]
-- a free block becomes used, a used one free
def mkI (V : VV) (b t F f : Nat) : VV := cnt (setA V 3 b t) 13 3 ((b - 1) / vG V) F f (vQ V)
theorem mark5_use {nb : Nat} {V : VV} {d : Nat → Nat} {σ : XS} (B : Bas nb V) (S : Sc V σ) (D : DX nb V d) {b F f : Nat} (h1 : 1 ≤ b) (h2 : b ≤ vQ V * vG V) (h3 : vkd V b = 0) (hF : ∀ y, y < vQ V → vFI V y = F) (hf : ∀ y, y < vQ V → vfi V y ((b - 1) / vG V) = f) (hF1 : 1 ≤ F) (hf1 : 1 ≤ f) (hF2 : F < 4294967296) (hf2 : f < 65536) :
    ∃ d', DX nb (mkI V b 3 (F - 1) (f - 1)) d' ∧ fXX3_mark_5 nb (nI b) (nI 1) (XD σ d) = some (XD σ d') := by
  have hg := G_lt B
  obtain ⟨hx, he, hr⟩ := B.1.ino h1 h2
  have hl := fx_lt B hx (r := 3) (by omega)
  have hd : (b - 1) / vG V ≤ b - 1 := Nat.div_le_self _ _
  have hbm := rd_imp B D hx (o := (b - 1) % vG V / 8) (by omega)
  have hlt : bits8 (fun t => ui V ((b - 1) / vG V) (8 * ((b - 1) % vG V / 8) + t)) < 256 := bits8_lt (fun t => ui_le _ _ _)
  have hbit := bits8_bit (f := fun t => ui V ((b - 1) / vG V) (8 * ((b - 1) % vG V / 8) + t)) (fun t => ui_le _ _ _) (t := (b - 1) % vG V % 8) (by omega)
  have hset := bits8_set (f := fun u => ui V ((b - 1) / vG V) (8 * ((b - 1) % vG V / 8) + u)) 1 (t := (b - 1) % vG V % 8) (by omega)
  have hs2 := ui_set B (t := 3) h1 h2
  rw [show 8 * ((b - 1) % vG V / 8) + (b - 1) % vG V % 8 = (b - 1) % vG V from by omega, ui_i B h1 h2, if_neg (by omega)] at hbit
  simp only [show 8 * ((b - 1) % vG V / 8) + (b - 1) % vG V % 8 = (b - 1) % vG V from by omega, ui_i B h1 h2, if_neg (show ¬ vkd V b ≠ 0 by omega), Nat.zero_mul, Nat.add_zero, Nat.one_mul] at hset
  rw [if_pos (by omega), hset] at hs2
  have D1 := DX_bitI B D (t := 3) h1 h2 (by omega) (by omega)
  rw [hs2] at D1
  have B1 : Bas nb (setA V 3 b 3) := Bas_of rfl rfl B
  obtain ⟨d', D2, h4⟩ := mark5_L (V := setA V 3 b 3) (σ := σ) B1 S D1 (x := (b - 1) / vG V) (F := F) (f := f) (F' := F - 1) (f' := f - 1) (δ := -nI 1) hx hF hf hF2 hf2 (nI_m1 hF1) (nI_m1 hf1)
  refine ⟨d', D2, ?_⟩
  simp (disch := omega) only [fXX3_mark_5, fXX3_mark_5_0, fXX3_mark_5_57, fXX3_mark_5_96, lit, litN, XD_s, S.1, S.2.1, S.2.2.1, S.2.2.2.1, S.2.2.2.2, nI_add, nI_mul, nI_sub_dm, n_sdm, nI_sub, nI_div, nI_ltI', nI_leI', nI_eqI, nI_clampI, if_pos, if_neg, if_true, if_false, obs, partAt_X B S, get_X, put_X, hbm, Nat.mod_eq_of_lt hlt, nI_sh31, nI_shl, Nat.one_mul, bit_or, hbit, Nat.sub_zero, wr1_N, h4]
theorem mark5_free {nb : Nat} {V : VV} {d : Nat → Nat} {σ : XS} (B : Bas nb V) (S : Sc V σ) (D : DX nb V d) {b F f : Nat} (h1 : 1 ≤ b) (h2 : b ≤ vQ V * vG V) (h3 : vkd V b = 3) (hF : ∀ y, y < vQ V → vFI V y = F) (hf : ∀ y, y < vQ V → vfi V y ((b - 1) / vG V) = f) (hF2 : F < 4294967296) (hf2 : f < 65536) :
    ∃ d', DX nb (mkI V b 0 (F + 1) (f + 1)) d' ∧ fXX3_mark_5 nb (nI b) (nI 0) (XD σ d) = some (XD σ d') := by
  have hg := G_lt B
  obtain ⟨hx, he, hr⟩ := B.1.ino h1 h2
  have hl := fx_lt B hx (r := 3) (by omega)
  have hd : (b - 1) / vG V ≤ b - 1 := Nat.div_le_self _ _
  have hbm := rd_imp B D hx (o := (b - 1) % vG V / 8) (by omega)
  have hlt : bits8 (fun t => ui V ((b - 1) / vG V) (8 * ((b - 1) % vG V / 8) + t)) < 256 := bits8_lt (fun t => ui_le _ _ _)
  have hbit := bits8_bit (f := fun t => ui V ((b - 1) / vG V) (8 * ((b - 1) % vG V / 8) + t)) (fun t => ui_le _ _ _) (t := (b - 1) % vG V % 8) (by omega)
  have hset := bits8_set (f := fun u => ui V ((b - 1) / vG V) (8 * ((b - 1) % vG V / 8) + u)) 0 (t := (b - 1) % vG V % 8) (by omega)
  have hs2 := ui_set B (t := 0) h1 h2
  rw [show 8 * ((b - 1) % vG V / 8) + (b - 1) % vG V % 8 = (b - 1) % vG V from by omega, ui_i B h1 h2, if_pos (by omega)] at hbit
  simp only [show 8 * ((b - 1) % vG V / 8) + (b - 1) % vG V % 8 = (b - 1) % vG V from by omega, ui_i B h1 h2, if_pos (show vkd V b ≠ 0 by omega), Nat.zero_mul, Nat.add_zero, Nat.one_mul] at hset
  rw [if_neg (by omega), Nat.eq_sub_of_add_eq hset] at hs2
  have D1 := DX_bitI B D (t := 0) h1 h2 (by omega) (by omega)
  rw [hs2] at D1
  have B1 : Bas nb (setA V 3 b 0) := Bas_of rfl rfl B
  obtain ⟨d', D2, h4⟩ := mark5_L (V := setA V 3 b 0) (σ := σ) B1 S D1 (x := (b - 1) / vG V) (F := F) (f := f) (F' := F + 1) (f' := f + 1) (δ := nI 1) hx hF hf hF2 hf2 (nI_add _ _) (nI_add _ _)
  refine ⟨d', D2, ?_⟩
  simp (disch := omega) only [fXX3_mark_5, fXX3_mark_5_0, fXX3_mark_5_57, fXX3_mark_5_96, lit, litN, XD_s, S.1, S.2.1, S.2.2.1, S.2.2.2.1, S.2.2.2.2, nI_add, nI_mul, nI_sub_dm, n_sdm, nI_sub, nI_div, nI_ltI', nI_leI', nI_eqI, nI_clampI, if_pos, if_neg, if_true, if_false, obs, partAt_X B S, get_X, put_X, hbm, Nat.mod_eq_of_lt hlt, nI_sh31, nI_shl, Nat.one_mul, bit_clr, hbit, wr1_N, h4]
-- the lowest free block
def lowI (V : VV) (b : Nat) : Prop := 1 ≤ b ∧ vkd V b = 0 ∧ ∀ c, 1 ≤ c → c < b → vkd V c ≠ 0
theorem lowI_eq {V : VV} {b c : Nat} (h : lowI V b) (h2 : lowI V c) : b = c := by
  rcases Nat.lt_trichotomy b c with h3 | h3 | h3
  · exact absurd h.2.1 (h2.2.2 b h.1 h3)
  · exact h3
  · exact absurd h2.2.1 (h.2.2 c h2.1 h3)
theorem take5_X {nb : Nat} {V : VV} {d : Nat → Nat} {σ : XS} (B : Bas nb V) (S : Sc V σ) (D : DX nb V d) {b F f : Nat} (h2 : b ≤ vQ V * vG V) (h3 : lowI V b) (hF : ∀ y, y < vQ V → vFI V y = F) (hf : ∀ y, y < vQ V → vfi V y ((b - 1) / vG V) = f) (hF1 : 1 ≤ F) (hf1 : 1 ≤ f) (hF2 : F < 4294967296) (hf2 : f < 65536) :
    ∃ d', DX nb (mkI V b 3 (F - 1) (f - 1)) d' ∧ fXX3_take_5 nb (XD σ d) = some (nI b, XD σ d') := by
  have hg := G_lt B
  obtain ⟨h1, h30, hlow⟩ := h3
  obtain ⟨hx, he, hr⟩ := B.1.ino h1 h2
  have hP8 : vG V % 8 = 0 := by omega
  obtain ⟨d', D', hm⟩ := mark5_use B S D h1 h2 h30 hF hf hF1 hf1 hF2 hf2
  refine ⟨d', D', ?_⟩
  -- a byte that stands before the block's
  have hful : ∀ x o, x < vQ V → o < vG V / 8 → x * vG V + 8 * o + 7 < b - 1 → bits8 (fun t => ui V x (8 * o + t)) = 255 := by
    intro x o hxx ho hlt
    have hone : ∀ t, t < 8 → ui V x (8 * o + t) = 1 := fun t ht => by
      unfold ui
      rw [if_pos]; right
      exact hlow _ (by omega) (by omega)
    unfold bits8
    simp only [hone 0 (by omega), hone 1 (by omega), hone 2 (by omega), hone 3 (by omega), hone 4 (by omega), hone 5 (by omega), hone 6 (by omega), hone 7 (by omega)]
  have hmine : ui V ((b - 1) / vG V) ((b - 1) % vG V) = 0 := by rw [ui_i B h1 h2, if_neg (by omega)]
  generalize hX : (b - 1) / vG V = X at *
  generalize hR : (b - 1) % vG V = R at *
  have hlt : bits8 (fun t => ui V X (8 * (R / 8) + t)) < 256 := bits8_lt (fun t => ui_le _ _ _)
  have hne : bits8 (fun t => ui V X (8 * (R / 8) + t)) ≠ 255 := fun e => by
    have := bits8_255 (fun t => ui_le V X (8 * (R / 8) + t)) e (t := R % 8) (by omega)
    rw [show 8 * (R / 8) + R % 8 = R from by omega, hmine] at this
    omega
  obtain ⟨t, ht8, ht0, htu, hlc⟩ := lowC_X (a := bits8 (fun t => ui V X (8 * (R / 8) + t))) nb (XD σ d) (by omega)
  have htR : t = R % 8 := by
    rw [bits8_bit (fun t => ui_le V X _) ht8] at ht0
    rcases Nat.lt_trichotomy t (R % 8) with h | h | h
    · exfalso
      have h0 : vkd V (X * vG V + (8 * (R / 8) + t) + 1) = 0 := by
        unfold ui at ht0
        by_cases hc : vG V ≤ 8 * (R / 8) + t ∨ vkd V (X * vG V + (8 * (R / 8) + t) + 1) ≠ 0
        · rw [if_pos hc] at ht0; omega
        · omega
      exact hlow _ (by omega) (by omega) h0
    · exact h
    · exfalso
      have := htu (R % 8) h
      rw [bits8_bit (fun t => ui_le V X _) (by omega)] at this
      rw [show 8 * (R / 8) + R % 8 = R from by omega, hmine] at this
      omega
  -- the inner loop, in a group before the block's
  have inner1 : ∀ x, x < X → ∀ k2 : (Int32 × XS) → Option (Int32 × XS), lfix ((fun k2 k28 t => fXX3_take_5_28 nb k2 k28 t.1 t.2.1 t.2.2.1 t.2.2.2) k2) FU (nI x, nI (1024 * (1 + x * vP V + 3)), nI 0, XD σ d) = k2 (nI (x + 1), XD σ d) := by
    intro x hxX
    have hmul : (x + 1) * vG V ≤ X * vG V := Nat.mul_le_mul_right _ hxX
    rw [Nat.add_mul] at hmul
    have key := lfor (κ := (Int32 × XS) → Option (Int32 × XS)) (S := Unit) (fun k2 k28 t => fXX3_take_5_28 nb k2 k28 t.1 t.2.1 t.2.2.1 t.2.2.2) (fun o _ => (nI x, nI (1024 * (1 + x * vP V + 3)), nI o, XD σ d)) (fun k2 _ => k2 (nI (x + 1), XD σ d)) (vG V / 8) (fun _ _ => True) ?_ ?_ 0 () FU (by omega) trivial (by unfold FU; omega)
    · obtain ⟨_, _, h⟩ := key
      exact h
    · intro o _ ho _
      refine ⟨(), trivial, fun k2 k => ?_⟩
      have hl := fx_lt B (x := x) (by omega) (r := 3) (by omega)
      have hbm := rd_imp B D (x := x) (by omega) (o := o) (by omega)
      rw [hful x o (by omega) ho (by omega)] at hbm
      simp (disch := omega) only [fXX3_take_5_28, lit, litN, XD_s, S.1, S.2.1, S.2.2.1, S.2.2.2.1, S.2.2.2.2, nI_add, nI_mul, nI_sub_dm, n_sdm, nI_sub, nI_div, nI_ltI', nI_leI', nI_eqI, nI_clampI, if_pos, if_neg, if_true, if_false, obs, get_X, hbm, Nat.reduceMod]
    · intro _ _ k2 k
      simp (disch := omega) only [fXX3_take_5_28, lit, litN, XD_s, S.1, S.2.1, S.2.2.1, S.2.2.2.1, S.2.2.2.2, nI_add, nI_mul, nI_sub_dm, n_sdm, nI_sub, nI_div, nI_ltI', nI_leI', nI_eqI, nI_clampI, if_pos, if_neg, if_true, if_false, obs]
  have inner2 : ∀ k2 : (Int32 × XS) → Option (Int32 × XS), lfix ((fun k2 k28 t => fXX3_take_5_28 nb k2 k28 t.1 t.2.1 t.2.2.1 t.2.2.2) k2) FU (nI X, nI (1024 * (1 + X * vP V + 3)), nI 0, XD σ d) = some (nI b, XD σ d') := by
    have key := lmea (κ := (Int32 × XS) → Option (Int32 × XS)) (S := Nat) (R := Unit) (fun k2 k28 t => fXX3_take_5_28 nb k2 k28 t.1 t.2.1 t.2.2.1 t.2.2.2) (fun o => (nI X, nI (1024 * (1 + X * vP V + 3)), nI o, XD σ d)) (fun _ _ => some (nI b, XD σ d')) (fun o => o ≤ R / 8) (fun _ => True) (fun o => R / 8 - o) ?_ FU 0 (by omega) (by unfold FU; omega)
    · obtain ⟨_, _, h⟩ := key
      exact h
    · intro o ho
      have hl := fx_lt B (x := X) (by omega) (r := 3) (by omega)
      have hbm := rd_imp B D (x := X) (by omega) (o := o) (by omega)
      by_cases hoR : o = R / 8
      · subst hoR
        refine .inr ⟨(), trivial, fun k2 k => ?_⟩
        have eb : 1 + X * vG V + 8 * (R / 8) + t = b := by omega
        simp (disch := omega) only [fXX3_take_5_28, lit, litN, XD_s, S.1, S.2.1, S.2.2.1, S.2.2.2.1, S.2.2.2.2, nI_add, nI_mul, nI_sub_dm, n_sdm, nI_sub, nI_div, nI_ltI', nI_leI', nI_eqI, nI_clampI, if_pos, if_neg, if_true, if_false, obs, get_X, hbm, Nat.mod_eq_of_lt hlt, hlc, eb, hm]
      · refine .inl ⟨o + 1, by omega, by omega, fun k2 k => ?_⟩
        rw [hful X o (by omega) (by omega) (by omega)] at hbm
        simp (disch := omega) only [fXX3_take_5_28, lit, litN, XD_s, S.1, S.2.1, S.2.2.1, S.2.2.2.1, S.2.2.2.2, nI_add, nI_mul, nI_sub_dm, n_sdm, nI_sub, nI_div, nI_ltI', nI_leI', nI_eqI, nI_clampI, if_pos, if_neg, if_true, if_false, obs, get_X, hbm, Nat.reduceMod]
  have key := lmea (κ := Unit) (S := Nat) (R := Unit) (fun _ k2 t => fXX3_take_5_2 nb k2 t.1 t.2) (fun x => (nI x, XD σ d)) (fun _ _ => some (nI b, XD σ d')) (fun x => x ≤ X) (fun _ => True) (fun x => X - x) ?_ FU 0 (by omega) (by unfold FU; omega)
  · obtain ⟨_, _, h⟩ := key
    simp only [fXX3_take_5, fXX3_take_5_0, lit, litN]
    exact h ()
  · intro x hxX
    by_cases hxe : x = X
    · subst hxe
      refine .inr ⟨(), trivial, fun _ k => ?_⟩
      simp (disch := omega) only [fXX3_take_5_2, groups_X B S, partAt_X B S, lit, litN, nI_ltI', nI_leI', nI_eqI, nI_clampI, if_pos, if_neg, if_true, if_false, obs]
      exact inner2 k
    · refine .inl ⟨x + 1, by omega, by omega, fun _ k => ?_⟩
      simp (disch := omega) only [fXX3_take_5_2, groups_X B S, partAt_X B S, lit, litN, nI_ltI', nI_leI', nI_eqI, nI_clampI, if_pos, if_neg, if_true, if_false, obs]
      exact inner1 x (by omega) k
