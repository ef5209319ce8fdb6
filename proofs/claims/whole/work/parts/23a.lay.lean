-- only the numbers that choose sets
def Sw (V : VV) (σ : XS) : Prop := σ.1 2 = nI (vP V) ∧ σ.1 3 = nI (vQ V) ∧ σ.1 4 = nI (vG V)
set_option maxRecDepth 4096 in
theorem partAt_w {nb : Nat} {V : VV} {σ : XS} (S : Sw V σ) (d : Nat → Nat) (x r : Nat) : fXX2_partAt_3 nb (nI x) (nI r) (XD σ d) = some (nI (1024 * (1 + x * vP V + r)), XD σ d) := by
  simp (disch := omega) only [fXX2_partAt_3_0, fXX2_partAt_3, lit, litN, XD_s, S.1, nI_add, nI_mul, m1024]
set_option maxRecDepth 4096 in
theorem groups_w {nb : Nat} {V : VV} {σ : XS} (S : Sw V σ) (d : Nat → Nat) : fXX2_groups_3 nb (XD σ d) = some (nI (vQ V), XD σ d) := by simp only [fXX2_groups_3_0, fXX2_groups_3, XD_s, S.2.1]
set_option maxRecDepth 4096 in
theorem gInodes_w {nb : Nat} {V : VV} {σ : XS} (S : Sw V σ) (d : Nat → Nat) : fXX2_groupInodes_3 nb (XD σ d) = some (nI (vG V), XD σ d) := by simp only [fXX2_groupInodes_3_0, fXX2_groupInodes_3, XD_s, S.2.2]
set_option maxRecDepth 4096 in
theorem gBlocks_w {nb : Nat} {V : VV} {σ : XS} (S : Sw V σ) (d : Nat → Nat) : fXX2_groupBlocks_3 nb (XD σ d) = some (nI (vP V), XD σ d) := by simp only [fXX2_groupBlocks_3_0, fXX2_groupBlocks_3, XD_s, S.1]
set_option maxRecDepth 4096 in
theorem fixedB_w {nb : Nat} {V : VV} {σ : XS} (B : Bas nb V) (S : Sw V σ) (d : Nat → Nat) : fXX2_fixedBlocks_3 nb (XD σ d) = some (nI (4 + vG V / 8), XD σ d) := by
  have := G_lt B
  simp (disch := omega) only [fXX2_fixedBlocks_3_0, fXX2_fixedBlocks_3, lit, litN, XD_s, S.2.2, nI_add, nI_div]
set_option maxRecDepth 4096 in
theorem firstB_w {nb : Nat} {V : VV} {σ : XS} (S : Sw V σ) (d : Nat → Nat) (x : Nat) : fXX2_firstBlock_3 nb (nI x) (XD σ d) = some (nI (1 + x * vP V), XD σ d) := by
  simp only [fXX2_firstBlock_3_0, fXX2_firstBlock_3, lit, litN, XD_s, S.1, nI_add, nI_mul]
set_option maxRecDepth 4096 in
theorem realIn4_w {nb : Nat} {V : VV} {σ : XS} (B : Bas nb V) (S : Sw V σ) (d : Nat → Nat) {x : Nat} (hx : x < vQ V) : fXX3_realIn_4 nb (nI x) (XD σ d) = some (nI (rmB nb V x), XD σ d) := by
  have := G_lt B; have := B.1.grp hx
  have bI : fXX2_blocksIn_3 nb (nI x) (XD σ d) = some (nI (rmB nb V x), XD σ d) := by
    simp (disch := omega) only [fXX2_blocksIn_3_0, fXX2_blocksIn_3, firstB_w S, lit, litN, XD_s, S.1, obs, nI_sub, nI_ltI']
    unfold rmB; split <;> rfl
  simp only [fXX3_realIn_4_0, fXX3_realIn_4, bI, obs]
set_option maxRecDepth 4096 in
theorem realIn5_w {nb : Nat} {V : VV} {σ : XS} (S : Sw V σ) (d : Nat → Nat) (x : Int32) : fXX3_realIn_5 nb x (XD σ d) = some (nI (vG V), XD σ d) := by
  simp only [fXX3_realIn_5_0, fXX3_realIn_5, gInodes_w S, obs]
def uF (f j k : Nat) : Nat := if f ≤ k ∧ k < j then 0 else 1
set_option maxRecDepth 4096 in
theorem uF_le (f j k : Nat) : uF f j k ≤ 1 := by unfold uF; split <;> omega
set_option maxRecDepth 4096 in
theorem uF_0 (f m : Nat) : bits8 (fun t => uF f f (8 * m + t)) = 255 := by
  rw [bits8_congr (g := fun _ => 1) (fun t _ => by unfold uF; rw [if_neg (by omega)])]; rfl
set_option maxRecDepth 4096 in
theorem uF_n {f j m : Nat} (h : m ≠ j / 8) : bits8 (fun t => uF f (j + 1) (8 * m + t)) = bits8 (fun t => uF f j (8 * m + t)) := by
  refine bits8_congr (fun t ht => ?_)
  unfold uF
  by_cases c : f ≤ 8 * m + t ∧ 8 * m + t < j
  · rw [if_pos c, if_pos (by omega)]
  · rw [if_neg c, if_neg (by omega)]
set_option maxRecDepth 4096 in
theorem uF_y {f j : Nat} (h : f ≤ j) : bits8 (fun t => uF f j (8 * (j / 8) + t)) - bits8 (fun t => uF f j (8 * (j / 8) + t)) / 2 ^ (j % 8) % 2 * 2 ^ (j % 8) = bits8 (fun t => uF f (j + 1) (8 * (j / 8) + t)) := by
  have hb := bits8_bit (f := fun t => uF f j (8 * (j / 8) + t)) (fun t => uF_le _ _ _) (t := j % 8) (Nat.mod_lt _ (by omega))
  have hs := bits8_set (f := fun t => uF f j (8 * (j / 8) + t)) 0 (t := j % 8) (Nat.mod_lt _ (by omega))
  have e1 : uF f j (8 * (j / 8) + j % 8) = 1 := by unfold uF; rw [if_neg (by omega)]
  have e2 : bits8 (up1 (fun t => uF f j (8 * (j / 8) + t)) (j % 8) 0) = bits8 (fun t => uF f (j + 1) (8 * (j / 8) + t)) := by
    refine bits8_congr (fun t ht => ?_)
    unfold up1
    by_cases c : t = j % 8
    · rw [if_pos c]; unfold uF; rw [if_pos (by omega)]
    · rw [if_neg c]
      show uF f j (8 * (j / 8) + t) = uF f (j + 1) (8 * (j / 8) + t)
      unfold uF
      by_cases c2 : f ≤ 8 * (j / 8) + t ∧ 8 * (j / 8) + t < j
      · rw [if_pos c2, if_pos (by omega)]
      · rw [if_neg c2, if_neg (by omega)]
  have hs' : bits8 (up1 (fun t => uF f j (8 * (j / 8) + t)) (j % 8) 0) + uF f j (8 * (j / 8) + j % 8) * 2 ^ (j % 8) = bits8 (fun t => uF f j (8 * (j / 8) + t)) + 0 * 2 ^ (j % 8) := hs
  have hb' : bits8 (fun t => uF f j (8 * (j / 8) + t)) / 2 ^ (j % 8) % 2 = uF f j (8 * (j / 8) + j % 8) := hb
  rw [hb', e1, Nat.one_mul]
  rw [e1, e2, Nat.one_mul, Nat.zero_mul, Nat.add_zero] at hs'
  omega
set_option maxRecDepth 4096 in
theorem lay4_X {nb : Nat} {V : VV} (B : Bas nb V) {σ : XS} (S : Sw V σ) (d : Nat → Nat) (hu : ∀ x k, x < vQ V → ub V x k = uF (4 + vG V / 8) (rmB nb V x) k) :
    ∃ d', (∀ x m, x < vQ V → m < 1024 → d' (1024 * (1 + x * vP V + 2) + m) = bits8 (fun t => ub V x (8 * m + t))) ∧ (∀ a, (∀ x, x < vQ V → a / 1024 ≠ 1 + x * vP V + 2) → d' a = d a) ∧ fXX3_lay_4 nb (XD σ d) = some (XD (stS σ 5 (nI (vP V))) d') := by
  have hg := G_lt B
  have S1 : Sw V (stS σ 5 (nI (vP V))) := S
  generalize hσ : stS σ 5 (nI (vP V)) = σ1 at *
  have gX := fun e => groups_w (nb := nb) S1 e
  have pX := fun e x => partAt_w (nb := nb) S1 e x 2
  have key : ∃ d', ((∀ x m, x < vQ V → m < 1024 → d' (1024 * (1 + x * vP V + 2) + m) = bits8 (fun t => ub V x (8 * m + t))) ∧ ∀ a, (∀ x, x < vQ V → a / 1024 ≠ 1 + x * vP V + 2) → d' a = d a) ∧ ∀ u : Unit, lfix ((fun _ k51 t => fXX3_lay_4_51 nb k51 t.1 t.2.1 t.2.2) u) FU (nI (4 + vG V / 8), nI 0, XD σ1 d) = some (XD σ1 d') := by
    refine lfor (κ := Unit) (fun _ k51 t => fXX3_lay_4_51 nb k51 t.1 t.2.1 t.2.2) (fun x (d' : Nat → Nat) => (nI (4 + vG V / 8), nI x, XD σ1 d')) (fun _ d' => some (XD σ1 d')) (vQ V) (fun x d' => (∀ y m, y < x → m < 1024 → d' (1024 * (1 + y * vP V + 2) + m) = bits8 (fun t => ub V y (8 * m + t))) ∧ ∀ a, (∀ y, y < x → a / 1024 ≠ 1 + y * vP V + 2) → d' a = d a) ?_ ?_ 0 d FU (Nat.zero_le _) ⟨fun y m hy => by omega, fun _ _ => rfl⟩ (by unfold FU; omega)
    · rintro x d1 hx ⟨i1, i2⟩
      have hlt := fx_lt B (r := 2) hx (by omega)
      have hgr := B.1.grp hx
      have hfr : 4 + vG V / 8 ≤ rmB nb V x ∧ rmB nb V x ≤ 2064 := by unfold rmB; split <;> omega
      have rI := fun e => realIn4_w (x := x) B S1 e hx
      have fi := fill_X (nb := nb) (a := 1024 * (1 + x * vP V + 2)) (b := 1024 * (1 + x * vP V + 2) + 1024) σ1 d1 255 (by omega) (by omega) (by omega)
      have hu' := fun k => hu x k hx
      generalize hb : 1 + x * vP V + 2 = b at *
      generalize hN : rmB nb V x = N at *
      have inner : ∃ e, (4 + vG V / 8 ≤ N ∧ (∀ m, m < 1024 → e (1024 * b + m) = bits8 (fun t => uF (4 + vG V / 8) N (8 * m + t))) ∧ ∀ a, a / 1024 ≠ b → e a = d1 a) ∧ ∀ K : (Int32 × Int32 × XS) → Option XS, lfix ((fun k51 k94 t => fXX3_lay_4_94 nb k51 k94 t.1 t.2.1 t.2.2.1 t.2.2.2.1 t.2.2.2.2) K) FU (nI (4 + vG V / 8), nI x, nI (1024 * b), nI (4 + vG V / 8), XD σ1 (wrF d1 (1024 * b) (1024 * b + 1024) 255)) = K (nI (4 + vG V / 8), nI (x + 1), XD σ1 e) := by
        refine lfor (fun k51 k94 t => fXX3_lay_4_94 nb k51 k94 t.1 t.2.1 t.2.2.1 t.2.2.2.1 t.2.2.2.2) (fun j (e : Nat → Nat) => (nI (4 + vG V / 8), nI x, nI (1024 * b), nI j, XD σ1 e)) (fun K e => K (nI (4 + vG V / 8), nI (x + 1), XD σ1 e)) N (fun j e => 4 + vG V / 8 ≤ j ∧ (∀ m, m < 1024 → e (1024 * b + m) = bits8 (fun t => uF (4 + vG V / 8) j (8 * m + t))) ∧ ∀ a, a / 1024 ≠ b → e a = d1 a) ?_ ?_ (4 + vG V / 8) _ FU hfr.1 ⟨Nat.le_refl _, fun m hm => ?_, fun a ha => ?_⟩ (by unfold FU; omega)
        · rintro j e hj ⟨j1, j2, j3⟩
          have v1 := j2 (j / 8) (by omega)
          have vl : bits8 (fun t => uF (4 + vG V / 8) j (8 * (j / 8) + t)) < 256 := bits8_lt (fun t => uF_le _ _ _)
          have uy := uF_y j1
          have g := get_X (nb := nb) (a := 1024 * b + j / 8) σ1 e (by omega) (by omega)
          rw [v1, Nat.mod_eq_of_lt vl] at g
          have bc := bit_clr (t := j % 8) vl (Nat.mod_lt _ (by omega))
          rw [uy] at bc
          have p := put_X (nb := nb) (a := 1024 * b + j / 8) σ1 e (bits8 (fun t => uF (4 + vG V / 8) (j + 1) (8 * (j / 8) + t))) (by omega) (by omega)
          have vl2 : bits8 (fun t => uF (4 + vG V / 8) (j + 1) (8 * (j / 8) + t)) < 256 := bits8_lt (fun t => uF_le _ _ _)
          have h8 : j % 8 < 32 := by omega
          refine ⟨wr1 e (1024 * b + j / 8) (bits8 (fun t => uF (4 + vG V / 8) (j + 1) (8 * (j / 8) + t))), ⟨by omega, fun m hm => ?_, fun a ha => ?_⟩, fun K K2 => ?_⟩
          · unfold wr1
            by_cases c : m = j / 8
            · rw [if_pos (by omega), Nat.mod_eq_of_lt vl2, c]
            · rw [if_neg (by omega), j2 m hm, uF_n c]
          · unfold wr1; rw [if_neg (by omega)]; exact j3 a ha
          · have rI := rI e
            simp (disch := omega) only [fXX3_lay_4_94, rI, obs, nI_leI', if_neg, lit, litN, nI_div, nI_mul, nI_sub_dm, nI_add, g, nI_sh31, nI_shl, Nat.one_mul, bc, p]
        · rintro e ⟨j1, j2, j3⟩ K K2
          have rI := rI e
          simp (disch := omega) only [fXX3_lay_4_94, rI, obs, nI_leI', if_pos, lit, litN, nI_add]
        · unfold wrF; rw [if_pos (by omega), uF_0]
        · unfold wrF; rw [if_neg (by omega)]
      obtain ⟨e, ⟨_, j2, j3⟩, hin⟩ := inner
      refine ⟨e, ⟨fun y m hy hm => ?_, fun a ha => ?_⟩, fun _ K => ?_⟩
      · by_cases c : y = x
        · subst c
          rw [hb, j2 m hm]
          exact bits8_congr (fun t _ => (hu' _).symm)
        · have : 1 + y * vP V + 2 ≠ b := by
            have : (y + 1) * vP V ≤ x * vP V := Nat.mul_le_mul_right _ (by omega)
            rw [Nat.add_mul] at this; omega
          rw [j3 _ (by omega)]
          exact i1 y m (by omega) hm
      · have := ha x (by omega)
        rw [j3 a (by rw [← hb]; exact this)]
        exact i2 a (fun y hy => ha y (by omega))
      · have hin := hin K
        have pX := pX d1 x
        rw [hb] at pX
        simp (disch := omega) only [fXX3_lay_4_51, gX, obs, nI_leI', if_neg, lit, litN, pX, nI_add, fi]
        exact hin
    · rintro d1 ⟨i1, i2⟩ _ K
      simp (disch := omega) only [fXX3_lay_4_51, gX, obs, nI_leI', if_pos]
  obtain ⟨d', ⟨a1, a2⟩, h⟩ := key
  have h' := h ()
  refine ⟨d', a1, a2, ?_⟩
  have g0 := gBlocks_w (nb := nb) S d
  have f0 := fixedB_w B S1 d
  have e1 : stS (XD σ d) 5 (nI (vP V)) = XD σ1 d := by rw [XD_S, hσ]
  simp only [fXX3_lay_4, fXX3_lay_4_0, fXX3_lay_4_26, fXX3_lay_4_48, g0, obs, e1, f0, lit, litN]
  exact h'
set_option maxRecDepth 4096 in
theorem lay5_X {nb : Nat} {V : VV} (B : Bas nb V) {σ : XS} (S : Sw V σ) (d : Nat → Nat) (hu : ∀ x k, x < vQ V → ui V x k = uF (0) (vG V) k) :
    ∃ d', (∀ x m, x < vQ V → m < 1024 → d' (1024 * (1 + x * vP V + 3) + m) = bits8 (fun t => ui V x (8 * m + t))) ∧ (∀ a, (∀ x, x < vQ V → a / 1024 ≠ 1 + x * vP V + 3) → d' a = d a) ∧ fXX3_lay_5 nb (XD σ d) = some (XD (stS σ 6 (nI (vG V))) d') := by
  have hg := G_lt B
  have S1 : Sw V (stS σ 6 (nI (vG V))) := S
  generalize hσ : stS σ 6 (nI (vG V)) = σ1 at *
  have gX := fun e => groups_w (nb := nb) S1 e
  have pX := fun e x => partAt_w (nb := nb) S1 e x 3
  have key : ∃ d', ((∀ x m, x < vQ V → m < 1024 → d' (1024 * (1 + x * vP V + 3) + m) = bits8 (fun t => ui V x (8 * m + t))) ∧ ∀ a, (∀ x, x < vQ V → a / 1024 ≠ 1 + x * vP V + 3) → d' a = d a) ∧ ∀ u : Unit, lfix ((fun _ k51 t => fXX3_lay_5_51 nb k51 t.1 t.2.1 t.2.2) u) FU (nI (0), nI 0, XD σ1 d) = some (XD σ1 d') := by
    refine lfor (κ := Unit) (fun _ k51 t => fXX3_lay_5_51 nb k51 t.1 t.2.1 t.2.2) (fun x (d' : Nat → Nat) => (nI (0), nI x, XD σ1 d')) (fun _ d' => some (XD σ1 d')) (vQ V) (fun x d' => (∀ y m, y < x → m < 1024 → d' (1024 * (1 + y * vP V + 3) + m) = bits8 (fun t => ui V y (8 * m + t))) ∧ ∀ a, (∀ y, y < x → a / 1024 ≠ 1 + y * vP V + 3) → d' a = d a) ?_ ?_ 0 d FU (Nat.zero_le _) ⟨fun y m hy => by omega, fun _ _ => rfl⟩ (by unfold FU; omega)
    · rintro x d1 hx ⟨i1, i2⟩
      have hlt := fx_lt B (r := 3) hx (by omega)
      have hgr := B.1.grp hx
      have hfr : 0 ≤ vG V ∧ vG V ≤ 2064 := by omega
      have rI := fun e => realIn5_w (nb := nb) S1 e (nI x)
      have fi := fill_X (nb := nb) (a := 1024 * (1 + x * vP V + 3)) (b := 1024 * (1 + x * vP V + 3) + 1024) σ1 d1 255 (by omega) (by omega) (by omega)
      have hu' := fun k => hu x k hx
      generalize hb : 1 + x * vP V + 3 = b at *
      generalize hN : vG V = N at *
      have inner : ∃ e, (0 ≤ N ∧ (∀ m, m < 1024 → e (1024 * b + m) = bits8 (fun t => uF (0) N (8 * m + t))) ∧ ∀ a, a / 1024 ≠ b → e a = d1 a) ∧ ∀ K : (Int32 × Int32 × XS) → Option XS, lfix ((fun k51 k94 t => fXX3_lay_5_94 nb k51 k94 t.1 t.2.1 t.2.2.1 t.2.2.2.1 t.2.2.2.2) K) FU (nI (0), nI x, nI (1024 * b), nI (0), XD σ1 (wrF d1 (1024 * b) (1024 * b + 1024) 255)) = K (nI (0), nI (x + 1), XD σ1 e) := by
        refine lfor (fun k51 k94 t => fXX3_lay_5_94 nb k51 k94 t.1 t.2.1 t.2.2.1 t.2.2.2.1 t.2.2.2.2) (fun j (e : Nat → Nat) => (nI (0), nI x, nI (1024 * b), nI j, XD σ1 e)) (fun K e => K (nI (0), nI (x + 1), XD σ1 e)) N (fun j e => 0 ≤ j ∧ (∀ m, m < 1024 → e (1024 * b + m) = bits8 (fun t => uF (0) j (8 * m + t))) ∧ ∀ a, a / 1024 ≠ b → e a = d1 a) ?_ ?_ (0) _ FU hfr.1 ⟨Nat.le_refl _, fun m hm => ?_, fun a ha => ?_⟩ (by unfold FU; omega)
        · rintro j e hj ⟨j1, j2, j3⟩
          have v1 := j2 (j / 8) (by omega)
          have vl : bits8 (fun t => uF (0) j (8 * (j / 8) + t)) < 256 := bits8_lt (fun t => uF_le _ _ _)
          have uy := uF_y j1
          have g := get_X (nb := nb) (a := 1024 * b + j / 8) σ1 e (by omega) (by omega)
          rw [v1, Nat.mod_eq_of_lt vl] at g
          have bc := bit_clr (t := j % 8) vl (Nat.mod_lt _ (by omega))
          rw [uy] at bc
          have p := put_X (nb := nb) (a := 1024 * b + j / 8) σ1 e (bits8 (fun t => uF (0) (j + 1) (8 * (j / 8) + t))) (by omega) (by omega)
          have vl2 : bits8 (fun t => uF (0) (j + 1) (8 * (j / 8) + t)) < 256 := bits8_lt (fun t => uF_le _ _ _)
          have h8 : j % 8 < 32 := by omega
          refine ⟨wr1 e (1024 * b + j / 8) (bits8 (fun t => uF (0) (j + 1) (8 * (j / 8) + t))), ⟨by omega, fun m hm => ?_, fun a ha => ?_⟩, fun K K2 => ?_⟩
          · unfold wr1
            by_cases c : m = j / 8
            · rw [if_pos (by omega), Nat.mod_eq_of_lt vl2, c]
            · rw [if_neg (by omega), j2 m hm, uF_n c]
          · unfold wr1; rw [if_neg (by omega)]; exact j3 a ha
          · have rI := rI e
            simp (disch := omega) only [fXX3_lay_5_94, rI, obs, nI_leI', if_neg, lit, litN, nI_div, nI_mul, nI_sub_dm, nI_add, g, nI_sh31, nI_shl, Nat.one_mul, bc, p]
        · rintro e ⟨j1, j2, j3⟩ K K2
          have rI := rI e
          simp (disch := omega) only [fXX3_lay_5_94, rI, obs, nI_leI', if_pos, lit, litN, nI_add]
        · unfold wrF; rw [if_pos (by omega), uF_0]
        · unfold wrF; rw [if_neg (by omega)]
      obtain ⟨e, ⟨_, j2, j3⟩, hin⟩ := inner
      refine ⟨e, ⟨fun y m hy hm => ?_, fun a ha => ?_⟩, fun _ K => ?_⟩
      · by_cases c : y = x
        · subst c
          rw [hb, j2 m hm]
          exact bits8_congr (fun t _ => (hu' _).symm)
        · have : 1 + y * vP V + 3 ≠ b := by
            have : (y + 1) * vP V ≤ x * vP V := Nat.mul_le_mul_right _ (by omega)
            rw [Nat.add_mul] at this; omega
          rw [j3 _ (by omega)]
          exact i1 y m (by omega) hm
      · have := ha x (by omega)
        rw [j3 a (by rw [← hb]; exact this)]
        exact i2 a (fun y hy => ha y (by omega))
      · have hin := hin K
        have pX := pX d1 x
        rw [hb] at pX
        simp (disch := omega) only [fXX3_lay_5_51, gX, obs, nI_leI', if_neg, lit, litN, pX, nI_add, fi]
        exact hin
    · rintro d1 ⟨i1, i2⟩ _ K
      simp (disch := omega) only [fXX3_lay_5_51, gX, obs, nI_leI', if_pos]
  obtain ⟨d', ⟨a1, a2⟩, h⟩ := key
  have h' := h ()
  refine ⟨d', a1, a2, ?_⟩
  have g0 := gInodes_w (nb := nb) S d
  have e1 : stS (XD σ d) 6 (nI (vG V)) = XD σ1 d := by rw [XD_S, hσ]
  simp only [fXX3_lay_5, fXX3_lay_5_0, fXX3_lay_5_26, fXX3_lay_5_48, g0, obs, e1, lit, litN]
  exact h'
