def XS0 : XS := ((fun _ => 0), (fun _ _ => 0), (fun _ _ => 0))
def bcv (x : Int32) : Int32 := ((fXJ11_bitCount 0 x XS0).map Prod.fst).getD 0
set_option maxRecDepth 4096 in
theorem bcv_X (nb : Nat) (x : Int32) (σ : XS) : fXJ11_bitCount nb x σ = some (bcv x, σ) := rfl
def pop8 (v : Nat) : Nat := num (fun t => v / 2 ^ t % 2) 8
set_option maxRecDepth 4096 in
theorem bcv_v {v : Nat} (h : v < 256) : bcv (nI v) = nI (pop8 v) := (by decide +kernel : ∀ v, v < 256 → bcv (nI v) = nI (pop8 v)) v h
set_option maxRecDepth 4096 in
theorem pop8_f {f : Nat → Nat} (h : ∀ t, f t ≤ 1) : pop8 (bits8 f) = num f 8 := num_congr (fun t ht => bits8_bit h ht)
set_option maxRecDepth 4096 in
theorem num8 {f g : Nat → Nat} (h : ∀ t, t < 8 → g t + f t = 1) : 8 - num f 8 = num g 8 ∧ num f 8 ≤ 8 := by
  have h0 := h 0 (by omega); have h1 := h 1 (by omega); have h2 := h 2 (by omega); have h3 := h 3 (by omega)
  have h4 := h 4 (by omega); have h5 := h 5 (by omega); have h6 := h 6 (by omega); have h7 := h 7 (by omega)
  simp only [num]; omega
set_option maxRecDepth 4096 in
theorem freeIn4_X {nb : Nat} {V : VV} {d : Nat → Nat} {ρ : XS} (B : Bas nb V) (S : Sc V ρ) {x : Nat} (hx : x < vQ V) (hm : ∀ m, m < 1024 → d (1024 * (1 + x * vP V + 2) + m) = bits8 (fun t => ub V x (8 * m + t))) : fXX3_freeIn_4 nb (nI x) (XD ρ d) = some (nI (nfbg V x), XD ρ d) := by
  have hg := G_lt B
  have h8 : vP V % 8 = 0 := by have := B.1.2.2.1; omega
  have pA := partAt_X B S d x 2
  have hlt := fx_lt B (r := 2) hx (by omega)
  have hl := B.1.2.2.1
  have key : ∃ _ : Unit, True ∧ ∀ u : Unit, lfix ((fun _ k18 t => fXX3_freeIn_4_18 nb k18 t.1 t.2.1 t.2.2.1 t.2.2.2) u) FU (nI (1024 * (1 + x * vP V + 2)), nI (num (fun k => pfb V (1 + x * vP V + k)) (8 * 0)), nI 0, XD ρ d) = some (nI (num (fun k => pfb V (1 + x * vP V + k)) (8 * (vP V / 8))), XD ρ d) := by
    refine lfor (κ := Unit) (fun _ k18 t => fXX3_freeIn_4_18 nb k18 t.1 t.2.1 t.2.2.1 t.2.2.2) (fun m (_ : Unit) => (nI (1024 * (1 + x * vP V + 2)), nI (num (fun k => pfb V (1 + x * vP V + k)) (8 * m)), nI m, XD ρ d)) (fun _ _ => some (nI (num (fun k => pfb V (1 + x * vP V + k)) (8 * (vP V / 8))), XD ρ d)) (vP V / 8) (fun _ _ => True) ?_ ?_ 0 () FU (Nat.zero_le _) trivial (by unfold FU; omega)
    · rintro m _ hmm _
      refine ⟨(), trivial, fun _ K => ?_⟩
      have g := get_X (nb := nb) (a := 1024 * (1 + x * vP V + 2) + m) ρ d (by omega) (by omega)
      have hb : bits8 (fun t => ub V x (8 * m + t)) < 256 := bits8_lt (fun t => ub_le V x _)
      rw [hm m (by omega), Nat.mod_eq_of_lt hb] at g
      have bc := bcv_v hb
      rw [pop8_f (fun t => ub_le V x _)] at bc
      obtain ⟨n1, n2⟩ := num8 (f := fun t => ub V x (8 * m + t)) (g := fun t => (fun k => pfb V (1 + x * vP V + k)) (8 * m + t)) (fun t ht => by
        show pfb V (1 + x * vP V + (8 * m + t)) + ub V x (8 * m + t) = 1
        unfold pfb ub
        by_cases q : vot V (1 + x * vP V + (8 * m + t)) = 0
        · rw [if_pos q, if_neg (by omega)]
        · rw [if_neg q, if_pos (.inr q)])
      have na := num_add (fun k => pfb V (1 + x * vP V + k)) (8 * m) 8
      have e : 8 * (m + 1) = 8 * m + 8 := by omega
      rw [← n1] at na
      simp (disch := omega) only [fXX3_freeIn_4_18, XD_s, S.1, S.2.1, S.2.2.1, S.2.2.2.1, S.2.2.2.2, lit, litN, nI_div, nI_leI', if_neg, nI_add, g, obs, bcv_X, bc, nI_sub, e, na]
    · rintro _ _ _ K
      simp (disch := omega) only [fXX3_freeIn_4_18, XD_s, S.1, S.2.1, S.2.2.1, S.2.2.2.1, S.2.2.2.2, lit, litN, nI_div, nI_leI', if_pos]
  obtain ⟨_, _, h⟩ := key
  have h' := h ()
  rw [show 8 * (vP V / 8) = vP V by omega] at h'
  simp only [fXX3_freeIn_4, fXX3_freeIn_4_0, lit, litN, pA, obs]
  exact h'
set_option maxRecDepth 4096 in
theorem freeIn5_X {nb : Nat} {V : VV} {d : Nat → Nat} {ρ : XS} (B : Bas nb V) (S : Sc V ρ) {x : Nat} (hx : x < vQ V) (hm : ∀ m, m < 1024 → d (1024 * (1 + x * vP V + 3) + m) = bits8 (fun t => ui V x (8 * m + t))) : fXX3_freeIn_5 nb (nI x) (XD ρ d) = some (nI (nfig V x), XD ρ d) := by
  have hg := G_lt B
  have h8 : vG V % 8 = 0 := by omega
  have pA := partAt_X B S d x 3
  have hlt := fx_lt B (r := 3) hx (by omega)
  have hl := B.1.2.2.1
  have key : ∃ _ : Unit, True ∧ ∀ u : Unit, lfix ((fun _ k18 t => fXX3_freeIn_5_18 nb k18 t.1 t.2.1 t.2.2.1 t.2.2.2) u) FU (nI (1024 * (1 + x * vP V + 3)), nI (num (fun k => pfi V (x * vG V + k + 1)) (8 * 0)), nI 0, XD ρ d) = some (nI (num (fun k => pfi V (x * vG V + k + 1)) (8 * (vG V / 8))), XD ρ d) := by
    refine lfor (κ := Unit) (fun _ k18 t => fXX3_freeIn_5_18 nb k18 t.1 t.2.1 t.2.2.1 t.2.2.2) (fun m (_ : Unit) => (nI (1024 * (1 + x * vP V + 3)), nI (num (fun k => pfi V (x * vG V + k + 1)) (8 * m)), nI m, XD ρ d)) (fun _ _ => some (nI (num (fun k => pfi V (x * vG V + k + 1)) (8 * (vG V / 8))), XD ρ d)) (vG V / 8) (fun _ _ => True) ?_ ?_ 0 () FU (Nat.zero_le _) trivial (by unfold FU; omega)
    · rintro m _ hmm _
      refine ⟨(), trivial, fun _ K => ?_⟩
      have g := get_X (nb := nb) (a := 1024 * (1 + x * vP V + 3) + m) ρ d (by omega) (by omega)
      have hb : bits8 (fun t => ui V x (8 * m + t)) < 256 := bits8_lt (fun t => ui_le V x _)
      rw [hm m (by omega), Nat.mod_eq_of_lt hb] at g
      have bc := bcv_v hb
      rw [pop8_f (fun t => ui_le V x _)] at bc
      obtain ⟨n1, n2⟩ := num8 (f := fun t => ui V x (8 * m + t)) (g := fun t => (fun k => pfi V (x * vG V + k + 1)) (8 * m + t)) (fun t ht => by
        show pfi V (x * vG V + (8 * m + t) + 1) + ui V x (8 * m + t) = 1
        unfold pfi ui
        by_cases q : vkd V (x * vG V + (8 * m + t) + 1) = 0
        · rw [if_pos q, if_neg (by omega)]
        · rw [if_neg q, if_pos (.inr q)])
      have na := num_add (fun k => pfi V (x * vG V + k + 1)) (8 * m) 8
      have e : 8 * (m + 1) = 8 * m + 8 := by omega
      rw [← n1] at na
      simp (disch := omega) only [fXX3_freeIn_5_18, XD_s, S.1, S.2.1, S.2.2.1, S.2.2.2.1, S.2.2.2.2, lit, litN, nI_div, nI_leI', if_neg, nI_add, g, obs, bcv_X, bc, nI_sub, e, na]
    · rintro _ _ _ K
      simp (disch := omega) only [fXX3_freeIn_5_18, XD_s, S.1, S.2.1, S.2.2.1, S.2.2.2.1, S.2.2.2.2, lit, litN, nI_div, nI_leI', if_pos]
  obtain ⟨_, _, h⟩ := key
  have h' := h ()
  rw [show 8 * (vG V / 8) = vG V by omega] at h'
  simp only [fXX3_freeIn_5, fXX3_freeIn_5_0, lit, litN, pA, obs]
  exact h'
set_option maxRecDepth 4096 in
theorem dirsIn_X {nb : Nat} {V : VV} {d : Nat → Nat} {ρ : XS} (B : Bas nb V) (S : Sc V ρ) {x : Nat} (hx : x < vQ V) (hm : ∀ k, k < vG V → (rd2 d (1024 * (1 + x * vP V + 4) + k * 128) = 16877 ↔ vkd V (x * vG V + k + 1) = 2)) : fXX4_directoriesIn_6 nb (nI x) (XD ρ d) = some (nI (ndcg V x), XD ρ d) := by
  have hg := G_lt B
  have pA := partAt_X B S d x 4
  have hgr := B.1.grp hx
  have gI := gInodes_X B S d
  have key : ∃ _ : Unit, True ∧ ∀ u : Unit, lfix ((fun _ k15 t => fXX4_directoriesIn_6_15 nb k15 t.1 t.2.1 t.2.2.1 t.2.2.2) u) FU (nI (num (fun k => pdc V (x * vG V + k + 1)) 0), nI (1024 * (1 + x * vP V + 4)), nI 0, XD ρ d) = some (nI (num (fun k => pdc V (x * vG V + k + 1)) (vG V)), XD ρ d) := by
    refine lfor (κ := Unit) (fun _ k15 t => fXX4_directoriesIn_6_15 nb k15 t.1 t.2.1 t.2.2.1 t.2.2.2) (fun k (_ : Unit) => (nI (num (fun k => pdc V (x * vG V + k + 1)) k), nI (1024 * (1 + x * vP V + 4)), nI k, XD ρ d)) (fun _ _ => some (nI (num (fun k => pdc V (x * vG V + k + 1)) (vG V)), XD ρ d)) (vG V) (fun _ _ => True) ?_ ?_ 0 () FU (Nat.zero_le _) trivial (by unfold FU; omega)
    · rintro k _ hk _
      refine ⟨(), trivial, fun _ K => ?_⟩
      have g := get2_X (nb := nb) (a := 1024 * (1 + x * vP V + 4) + k * 128) ρ d (by omega) (by omega)
      have r2 := rd2_lt d (1024 * (1 + x * vP V + 4) + k * 128)
      have hk' := hm k hk
      have na : num (fun k => pdc V (x * vG V + k + 1)) (k + 1) = num (fun k => pdc V (x * vG V + k + 1)) k + pdc V (x * vG V + k + 1) := rfl
      generalize rd2 d (1024 * (1 + x * vP V + 4) + k * 128) = v at *
      by_cases q : vkd V (x * vG V + k + 1) = 2
      · have e1 : pdc V (x * vG V + k + 1) = 1 := if_pos q
        rw [e1] at na
        have hv := hk'.mpr q
        simp (disch := omega) only [fXX4_directoriesIn_6_15, fXX4_directoriesIn_6_51, gI, obs, lit, litN, nI_leI', if_neg, nI_mul, nI_add, g, hv, if_true, na]
      · have e1 : pdc V (x * vG V + k + 1) = 0 := if_neg q
        have na : num (fun k => pdc V (x * vG V + k + 1)) (k + 1) = num (fun k => pdc V (x * vG V + k + 1)) k := by rw [na, e1]; rfl
        have hv : v ≠ 16877 := fun e => q (hk'.mp e)
        simp (disch := omega) only [fXX4_directoriesIn_6_15, fXX4_directoriesIn_6_51, gI, obs, lit, litN, nI_leI', if_neg, nI_mul, nI_add, g, nI_eqI, na]
    · rintro _ _ _ K
      simp (disch := omega) only [fXX4_directoriesIn_6_15, gI, obs, nI_leI', if_pos]
  obtain ⟨_, _, h⟩ := key
  have h' := h ()
  simp only [fXX4_directoriesIn_6, fXX4_directoriesIn_6_0, lit, litN, pA, obs]
  exact h'
-- the draft
def XEn (ρ : XS) (e : Nat → Nat) (n : Nat) : XS := (ρ.1, va_up ρ.2.1 2 (fun a => if a < n then sb (e a) else ρ.2.1 2 a), ρ.2.2)
def XE (ρ : XS) (e : Nat → Nat) : XS := XEn ρ e 2048
set_option maxRecDepth 4096 in
theorem XE_o (ρ : XS) (e : Nat → Nat) {k : Nat} (h : k ≠ 2) : (XE ρ e).2.1 k = ρ.2.1 k := va_up_ne _ _ h
set_option maxRecDepth 4096 in
theorem XE_at (ρ : XS) (e d : Nat → Nat) {a : Nat} (h : a < 2048) : (XD (XE ρ e) d).2.1 2 a = sb (e a) := by
  show (if a < 2048 then sb (e a) else ρ.2.1 2 a) = _
  rw [if_pos h]
set_option maxRecDepth 4096 in
theorem XE_put (ρ : XS) (e d : Nat → Nat) {i : Nat} (v : Nat) (h : i < 2048) : stA (XD (XE ρ e) d) 2 i (sb v) = XD (XE ρ (wr1 e i v)) d := by
  rw [XD_A _ _ _ _ (by omega)]
  congr 1
  unfold stA XE XEn
  refine Prod.ext rfl (Prod.ext ?_ rfl)
  funext k x
  show va_up (va_up ρ.2.1 2 (fun a => if a < 2048 then sb (e a) else ρ.2.1 2 a)) 2 (upd (fun a => if a < 2048 then sb (e a) else ρ.2.1 2 a) i (sb v)) k x = va_up ρ.2.1 2 (fun a => if a < 2048 then sb (wr1 e i v a) else ρ.2.1 2 a) k x
  by_cases c : k = 2
  · subst c
    rw [va_up_self, va_up_self]
    unfold upd wr1
    by_cases c2 : x = i
    · rw [if_pos c2, if_pos (by omega), if_pos c2, sb_mod]
    · rw [if_neg c2]
      show (if x < 2048 then sb (e x) else ρ.2.1 2 x) = _
      by_cases c3 : x < 2048
      · rw [if_pos c3, if_pos c3, if_neg c2]
      · rw [if_neg c3, if_neg c3]
  · rw [va_up_ne _ _ c, va_up_ne _ _ c, va_up_ne _ _ c]
set_option maxRecDepth 4096 in
theorem XEn_put (ρ : XS) (d : Nat → Nat) (i : Nat) : stA (XD (XEn ρ (fun _ => 0) i) d) 2 i (sb 0) = XD (XEn ρ (fun _ => 0) (i + 1)) d := by
  rw [XD_A _ _ _ _ (by omega)]
  congr 1
  unfold stA XEn
  refine Prod.ext rfl (Prod.ext ?_ rfl)
  funext k x
  show va_up (va_up ρ.2.1 2 (fun a => if a < i then sb 0 else ρ.2.1 2 a)) 2 (upd (fun a => if a < i then sb 0 else ρ.2.1 2 a) i (sb 0)) k x = va_up ρ.2.1 2 (fun a => if a < i + 1 then sb 0 else ρ.2.1 2 a) k x
  by_cases c : k = 2
  · subst c
    rw [va_up_self, va_up_self]
    unfold upd
    by_cases c2 : x = i
    · rw [if_pos c2, if_pos (by omega)]
    · rw [if_neg c2]
      show (if x < i then sb 0 else ρ.2.1 2 x) = _
      by_cases c3 : x < i
      · rw [if_pos c3, if_pos (by omega)]
      · rw [if_neg c3, if_neg (by omega)]
  · rw [va_up_ne _ _ c, va_up_ne _ _ c, va_up_ne _ _ c]
set_option maxRecDepth 4096 in
theorem XEn_0 (ρ : XS) (e : Nat → Nat) : XEn ρ e 0 = ρ := by
  unfold XEn
  refine Prod.ext rfl (Prod.ext ?_ rfl)
  funext k x
  show va_up ρ.2.1 2 (fun a => if a < 0 then sb (e a) else ρ.2.1 2 a) k x = _
  by_cases c : k = 2
  · subst c; rw [va_up_self, if_neg (by omega)]
  · rw [va_up_ne _ _ c]
set_option maxRecDepth 4096 in
theorem get_E {nb a : Nat} (σ : XS) (e d : Nat → Nat) (h : a < 2048) : fXX1_get_11 nb (nI a) (XD (XE σ e) d) = some (nI (e a % 256), XD (XE σ e) d) := by
  simp (disch := omega) only [fXX1_get_11_0, fXX1_get_11, lit, litN, nI_ltI', nI_leI', nI_eqI, nI_clampI, n_or, if_pos, if_neg, if_true, if_false, obs, XE_at, sb_and]
set_option maxRecDepth 4096 in
theorem put2_E {nb a : Nat} (σ : XS) (e d : Nat → Nat) (v : Nat) (h : a + 1 < 2048) : fXX1_put2_11 nb (nI a) (nI v) (XD (XE σ e) d) = some (XD (XE σ (wrN e a 2 v)) d) := by
  rw [← wr2_N]
  simp (disch := omega) only [fXX1_put2_11_0, fXX1_put2_11, lit, litN, nI_add, nI_sub, nI_ltI', nI_leI', nI_eqI, nI_clampI, n_or, if_pos, if_neg, if_true, if_false, obs, nI_sh31, sb_shr, byt_nI, nar_sb, XE_put, wr2]
set_option maxRecDepth 4096 in
theorem put4_E {nb a : Nat} (σ : XS) (e d : Nat → Nat) (v : Nat) (h : a + 3 < 2048) : fXX1_put4_11 nb (nI a) (nI v) (XD (XE σ e) d) = some (XD (XE σ (wrN e a 4 v)) d) := by
  rw [← wr4_N]
  simp (disch := omega) only [fXX1_put4_11_0, fXX1_put4_11, lit, litN, nI_add, nI_sub, nI_ltI', nI_leI', nI_eqI, nI_clampI, n_or, if_pos, if_neg, if_true, if_false, obs, nI_sh31, sb_shr, byt_nI, nar_sb, XE_put, wr4, wr2]
set_option maxRecDepth 4096 in
theorem fill_E {nb : Nat} (σ : XS) (d : Nat → Nat) : fXX1_fill_11 nb (nI 0) (nI 2048) (nI 0) (XD σ d) = some (XD (XE σ (fun _ => 0)) d) := by
  have h1 : ∃ _ : Unit, True ∧ ∀ c : Unit, lfix ((fun _ k10 t => fXJ2_fill___12_10 nb k10 t.1 t.2.1 t.2.2.1 t.2.2.2) c) FU (nI 2048, sb 0, nI 0, XD (XEn σ (fun _ => 0) 0) d) = some (XD (XE σ (fun _ => 0)) d) := by
    refine lfor (κ := Unit) (fun _ k10 t => fXJ2_fill___12_10 nb k10 t.1 t.2.1 t.2.2.1 t.2.2.2) (fun i (_ : Unit) => (nI 2048, sb 0, nI i, XD (XEn σ (fun _ => 0) i) d)) (fun _ _ => some (XD (XE σ (fun _ => 0)) d)) 2048 (fun _ _ => True) ?_ ?_ 0 () FU (by omega) trivial (by unfold FU; omega)
    · rintro i _ hi _
      refine ⟨(), trivial, fun _ k => ?_⟩
      simp (disch := omega) only [fXJ2_fill___12_10, lit, litN, nI_add, nI_ltI', nI_leI', nI_eqI, nI_clampI, n_or, if_pos, if_neg, if_true, if_false, obs, nar_sb, XEn_put]
    · rintro _ _ _ k
      simp (disch := omega) only [fXJ2_fill___12_10, lit, litN, nI_add, nI_ltI', nI_leI', nI_eqI, nI_clampI, n_or, if_pos, if_neg, if_true, if_false, obs]
      rfl
  obtain ⟨_, _, h2⟩ := h1
  have h3 := h2 ()
  rw [XEn_0] at h3
  simp (disch := omega) only [fXX1_fill_11_0, fXX1_fill_11, fXJ2_fill___12, fXJ2_fill___12_0, fXJ2_rangeCheck_0, fXJ2_rangeCheck, lit, litN, byt_nI, nI_ltI', nI_leI', nI_eqI, nI_clampI, if_pos, if_neg, if_true, if_false, obs]
  rw [h3]; rfl
