set_option maxRecDepth 4096 in
theorem INV_t {nb : Nat} {σ τ : XS} (I : INV nb σ τ) (v : Int32) : INV nb σ (stS τ 0 v) := by
  rcases I.2.2 with ⟨h0, h2, hd, f, hf⟩ | ⟨V, d, f, h, H⟩
  · exact INV_nm I h0 h2 hd hf (keepT_S τ _ (.inl rfl))
  · have := INV_ro I H (keepX_rfl σ) (keepT_S τ (m := 0) v (by omega))
    have e0 : XD (stS τ 0 v) f = stS τ 0 v := by rw [← XD_S, XDe H.2.2.2.2.2.2.2.1]
    rw [XDe H.2.1, e0] at this; exact this
-- the arithmetic of the parts
def nQ (nb P : Nat) : Nat := (nb - 1 + P - 1) / P
def nR (nb P n : Nat) : Nat := (n + 8 * nQ nb P - 1) / (8 * nQ nb P)
set_option maxRecDepth 4096 in
theorem nQ_b {nb P : Nat} (h1 : 128 ≤ nb) (h2 : nb ≤ 512) (hP : P = 64 ∨ P = 128 ∨ P = 256) : 1 ≤ nQ nb P ∧ nQ nb P ≤ 8 ∧ (nQ nb P - 1) * P ≤ nb - 1 ∧ nb ≤ nQ nb P * P + 1 := by
  unfold nQ
  rcases hP with rfl | rfl | rfl <;> omega
set_option maxRecDepth 4096 in
theorem nR_b {nb P n : Nat} (hQ : 1 ≤ nQ nb P) (hn : 12 ≤ n) (hn2 : n ≤ 2000) : 1 ≤ nR nb P n ∧ nR nb P n ≤ 2000 ∧ n ≤ nQ nb P * (8 * nR nb P n) ∧ nQ nb P * (8 * nR nb P n) ≤ n + 8 * nQ nb P - 1 := by
  unfold nR
  generalize nQ nb P = q at *
  have hq : 0 < 8 * q := by omega
  have d1 := Nat.div_mul_le_self (n + 8 * q - 1) (8 * q)
  have d2 := Nat.lt_div_mul_add (a := n + 8 * q - 1) hq
  generalize (n + 8 * q - 1) / (8 * q) = r at *
  have e : q * (8 * r) = r * (8 * q) := by rw [Nat.mul_comm q, Nat.mul_assoc, Nat.mul_comm r (8 * q), Nat.mul_assoc, Nat.mul_comm r q]
  rw [e]
  have hr : 1 ≤ r := by
    rcases Nat.eq_zero_or_pos r with z | z
    · subst z; omega
    · exact z
  have : r * 8 ≤ r * (8 * q) := Nat.mul_le_mul_left r (by omega)
  refine ⟨hr, ?_, by omega, d1⟩
  rcases Nat.lt_or_ge 2000 r with w | w
  · have : 2001 * (8 * q) ≤ r * (8 * q) := Nat.mul_le_mul_right _ w
    omega
  · exact w
set_option maxRecDepth 4096 in
theorem nLay {nb P n : Nat} (h1 : 128 ≤ nb) (h2 : nb ≤ 512) (hP : P = 64 ∨ P = 128 ∨ P = 256) (hn : 12 ≤ n) (hn2 : n ≤ 2000) (hc : 12 + nR nb P n ≤ nb - 1 - (nQ nb P - 1) * P) : Lay nb P (nQ nb P) (8 * nR nb P n) := by
  obtain ⟨q1, q2, q3, q4⟩ := nQ_b h1 h2 hP
  obtain ⟨r1, r2, r3, r4⟩ := nR_b q1 hn hn2
  have e8 : 8 * nR nb P n / 8 = nR nb P n := by omega
  have eq : nQ nb P * P = (nQ nb P - 1) * P + P := by
    rw [← Nat.succ_mul]; congr 1; omega
  refine ⟨h1, h2, hP, q1, q2, by rw [e8]; omega, q4, by rw [e8]; omega, by omega, by omega, by omega, by omega⟩
set_option maxRecDepth 4096 in
theorem choose_X {nb P n : Nat} (h1 : 128 ≤ nb) (h2 : nb ≤ 512) (hP : P = 64 ∨ P = 128 ∨ P = 256) (hn : 12 ≤ n) (hn2 : n ≤ 2000) (σ : XS) :
    fXX2_choose_3 nb (nI P) (nI n) σ = if 12 + nR nb P n ≤ nb - 1 - (nQ nb P - 1) * P then some (nI 1, stS (stS (stS σ 2 (nI P)) 3 (nI (nQ nb P))) 4 (nI (8 * nR nb P n))) else some (nI 0, σ) := by
  obtain ⟨q1, q2, q3, q4⟩ := nQ_b h1 h2 hP
  obtain ⟨r1, r2, r3, r4⟩ := nR_b q1 hn hn2
  have k10 : (nI 1 = nI 0) = False := eq_false nI10
  have eQ : (nb - 1 + P - 1) / P = nQ nb P := rfl
  have eR : (n + 8 * nQ nb P - 1) / (8 * nQ nb P) = nR nb P n := rfl
  have hP2 : 64 ≤ P ∧ P ≤ 256 := by omega
  have body : fXX2_choose_3_20 nb (nI P) (nI n) σ = if 12 + nR nb P n ≤ nb - 1 - (nQ nb P - 1) * P then some (nI 1, stS (stS (stS σ 2 (nI P)) 3 (nI (nQ nb P))) 4 (nI (8 * nR nb P n))) else some (nI 0, σ) := by
    have s1 : fXX2_choose_3_20 nb (nI P) (nI n) σ = fXX2_choose_3_84 nb (nI P) (nI (nQ nb P)) (nI (nR nb P n)) σ := by
      simp (disch := omega) only [fXX2_choose_3_20, fXX2_choose_3_25, lit, litN, k10, if_false, nI_ltI', nI_leI', if_neg, if_pos, nI_eqI, nI_sub, nI_add, nI_div, eQ, nI_mul, eR]
    rw [s1]
    by_cases c : 12 + nR nb P n ≤ nb - 1 - (nQ nb P - 1) * P
    · rw [if_pos c]
      simp (disch := omega) only [fXX2_choose_3_84, lit, litN, nI_sub, nI_mul, nI_add, nI_leI', if_pos]
    · rw [if_neg c]
      simp (disch := omega) only [fXX2_choose_3_84, lit, litN, nI_sub, nI_mul, nI_add, nI_leI', if_neg]
  rw [← body]
  rcases hP with rfl | rfl | rfl
  · simp (disch := omega) only [fXX2_choose_3, fXX2_choose_3_0, lit, litN, if_true]
  · simp (disch := omega) only [fXX2_choose_3, fXX2_choose_3_0, lit, litN, nI_eqI, if_neg, if_true]
  · simp (disch := omega) only [fXX2_choose_3, fXX2_choose_3_0, lit, litN, nI_eqI, if_neg, if_true]
set_option maxRecDepth 4096 in
theorem choose_N {nb p n : Nat} (hp : p < 4294967296) (h : ¬ (p = 64 ∨ p = 128 ∨ p = 256) ∨ nI n < nI 12 ∨ ¬ nI n ≤ nI 2000) (σ : XS) : fXX2_choose_3 nb (nI p) (nI n) σ = some (nI 0, σ) := by
  have k10 : (nI 1 = nI 0) = False := eq_false nI10
  have b0 : fXX2_choose_3_25 nb (nI p) (nI n) (nI 0) σ = some (nI 0, σ) := by simp only [fXX2_choose_3_25, lit, litN, if_true]
  by_cases hP : p = 64 ∨ p = 128 ∨ p = 256
  · have b1 : fXX2_choose_3_20 nb (nI p) (nI n) σ = some (nI 0, σ) := by
      by_cases c : nI n < nI 12
      · simp only [fXX2_choose_3_20, fXX2_choose_3_25, lit, litN, k10, if_false, c, if_true]
      · have c2 : ¬ nI n ≤ nI 2000 := by
          rcases h with h | h | h
          · exact absurd hP h
          · exact absurd h c
          · exact h
        simp only [fXX2_choose_3_20, fXX2_choose_3_25, lit, litN, k10, if_false, c, c2]
    rcases hP with rfl | rfl | rfl
    · simp (disch := omega) only [fXX2_choose_3, fXX2_choose_3_0, lit, litN, if_true, b1]
    · simp (disch := omega) only [fXX2_choose_3, fXX2_choose_3_0, lit, litN, nI_eqI, if_neg, if_true, b1]
    · simp (disch := omega) only [fXX2_choose_3, fXX2_choose_3_0, lit, litN, nI_eqI, if_neg, if_true, b1]
  · simp (disch := omega) only [fXX2_choose_3, fXX2_choose_3_0, lit, litN, nI_ne, if_neg, b0]
set_option maxRecDepth 4096 in
theorem fmt_N {nb p n : Nat} {i : Int32} (hp : p < 4294967296) (h : ¬ (p = 64 ∨ p = 128 ∨ p = 256) ∨ nI n < nI 12 ∨ ¬ nI n ≤ nI 2000) (τ : XS) : fMX12_format_0 nb (nI p) (nI n) i τ = some (nI 0, stS τ 0 (nI 1)) := by
  have k1 : ¬ nI 1 ≤ nI 0 := by decide +kernel
  have b0 : fMX12_format_0_34 nb (nI p) (nI n) i τ = some (nI 0, stS τ 0 (nI 1)) := by simp only [fMX12_format_0_34, fMX12_format_0_39, lit, litN, k1, if_false]
  by_cases hP : p = 64 ∨ p = 128 ∨ p = 256
  · have b1 : fMX12_format_0_21 nb (nI p) (nI n) i τ = some (nI 0, stS τ 0 (nI 1)) := by
      by_cases c : nI n < nI 12
      · simp only [fMX12_format_0_21, lit, litN, c, if_true, b0]
      · have c2 : ¬ nI n ≤ nI 2000 := by
          rcases h with h | h | h
          · exact absurd hP h
          · exact absurd h c
          · exact h
        simp only [fMX12_format_0_21, lit, litN, c, if_false, c2, b0]
    rcases hP with rfl | rfl | rfl
    · simp (disch := omega) only [fMX12_format_0, fMX12_format_0_0, lit, litN, if_true, b1]
    · simp (disch := omega) only [fMX12_format_0, fMX12_format_0_0, lit, litN, nI_eqI, if_neg, if_true, b1]
    · simp (disch := omega) only [fMX12_format_0, fMX12_format_0_0, lit, litN, nI_eqI, if_neg, if_true, b1]
  · simp (disch := omega) only [fMX12_format_0, fMX12_format_0_0, lit, litN, nI_ne, if_neg, b0]
def fmS (τ : XS) (P Q G : Nat) (i : Int32) : XS := stS (stS (stS (stS (stS (stS (stS τ 0 (nI 0)) 0 (nI 0)) 4 (nI P)) 7 (nI Q)) 5 (nI G)) 6 (nI (G / 8))) 8 i
set_option maxRecDepth 4096 in
theorem fmt_Y {nb P n : Nat} {i : Int32} (h1 : 128 ≤ nb) (h2 : nb ≤ 512) (hP : P = 64 ∨ P = 128 ∨ P = 256) (hn : 12 ≤ n) (hn2 : n ≤ 2000) (τ : XS) :
    fMX12_format_0 nb (nI P) (nI n) i τ = if 12 + nR nb P n ≤ nb - 1 - (nQ nb P - 1) * P then lfix (fun k192 t => fMX12_format_0_192 nb k192 t.1 t.2) FU (nI 0, fmS τ P (nQ nb P) (8 * nR nb P n) i) else some (nI 0, stS τ 0 (nI 1)) := by
  obtain ⟨q1, q2, q3, q4⟩ := nQ_b h1 h2 hP
  obtain ⟨r1, r2, r3, r4⟩ := nR_b q1 hn hn2
  have hP2 : 64 ≤ P ∧ P ≤ 256 := by omega
  have eqp : nQ nb P * P = (nQ nb P - 1) * P + P := by
    rw [← Nat.succ_mul]; congr 1; omega
  have p1 := parts_M nb (stS τ 0 (nI 0)) (x := nb - 1) (y := P) (by omega) (by omega)
  have p2 := parts_M nb (stS τ 0 (nI 0)) (x := n) (y := 8 * nQ nb P) (by omega) (by omega)
  have p1 : fMX12_parts nb (nI (nb - 1)) (nI P) (stS τ 0 (nI 0)) = some (nI (nQ nb P), stS τ 0 (nI 0)) := p1
  have p2 : fMX12_parts nb (nI n) (nI (8 * nQ nb P)) (stS τ 0 (nI 0)) = some (nI (nR nb P n), stS τ 0 (nI 0)) := p2
  have e8 : nR nb P n * 8 = 8 * nR nb P n := Nat.mul_comm _ _
  have k1 : ¬ nI 1 ≤ nI 0 := by decide +kernel
  have b105 : fMX12_format_0_21 nb (nI P) (nI n) i τ = fMX12_format_0_105 nb (nI P) i (nI (nQ nb P)) (nI (8 * nR nb P n)) (nI (nb - 1 - (nQ nb P - 1) * P)) (stS τ 0 (nI 0)) := by
    by_cases c : nQ nb P = 1
    · have z : (nQ nb P - 1) * P = 0 := by rw [c]; omega
      rw [z, Nat.sub_zero]
      simp (disch := omega) only [fMX12_format_0_21, fMX12_format_0_39, lit, litN, nI_ltI', nI_leI', if_neg, if_pos, nI_sub, p1, obs, nI_mul, p2, nI_eqI, e8]
    · simp (disch := omega) only [fMX12_format_0_21, fMX12_format_0_39, lit, litN, nI_ltI', nI_leI', if_neg, if_pos, nI_sub, p1, obs, nI_mul, p2, nI_eqI, e8]
  have no : fMX12_format_0_139 nb (nI P) i (nI (nQ nb P)) (nI (8 * nR nb P n)) (stS τ 0 (nI 0)) = some (nI 0, stS τ 0 (nI 1)) := by
    simp only [fMX12_format_0_139, fMX12_format_0_144, lit, litN, k1, if_false, stS_S]
  have dv : 8 * nR nb P n / 8 = nR nb P n := by omega
  have body : fMX12_format_0_21 nb (nI P) (nI n) i τ = if 12 + nR nb P n ≤ nb - 1 - (nQ nb P - 1) * P then lfix (fun k192 t => fMX12_format_0_192 nb k192 t.1 t.2) FU (nI 0, fmS τ P (nQ nb P) (8 * nR nb P n) i) else some (nI 0, stS τ 0 (nI 1)) := by
    rw [b105]
    by_cases c : 12 + nR nb P n ≤ nb - 1 - (nQ nb P - 1) * P
    · rw [if_pos c]
      unfold fmS
      simp (disch := omega) only [fMX12_format_0_105, fMX12_format_0_126, fMX12_format_0_144, lit, litN, nI_div, dv, nI_add, nI_leI', if_pos]
    · rw [if_neg c]
      by_cases c2 : 12 + nR nb P n ≤ P
      · simp (disch := omega) only [fMX12_format_0_105, fMX12_format_0_126, lit, litN, nI_div, dv, nI_add, nI_leI', if_pos, if_neg, no]
      · by_cases c3 : 1 < nQ nb P
        · simp (disch := omega) only [fMX12_format_0_105, lit, litN, nI_div, dv, nI_add, nI_leI', nI_ltI', if_pos, if_neg, no]
        · simp (disch := omega) only [fMX12_format_0_105, fMX12_format_0_126, lit, litN, nI_div, dv, nI_add, nI_leI', nI_ltI', if_neg, no]
  rw [← body]
  rcases hP with rfl | rfl | rfl
  · simp (disch := omega) only [fMX12_format_0, fMX12_format_0_0, lit, litN, if_true]
  · simp (disch := omega) only [fMX12_format_0, fMX12_format_0_0, lit, litN, nI_eqI, if_neg, if_true]
  · simp (disch := omega) only [fMX12_format_0, fMX12_format_0_0, lit, litN, nI_eqI, if_neg, if_true]
-- the disk is laid out anew
set_option maxRecDepth 4096 in
theorem laid_X {nb P Q G : Nat} (L : Lay nb P Q G) (I M : Nat) {σ : XS} (s2 : σ.1 2 = nI P) (s3 : σ.1 3 = nI Q) (s4 : σ.1 4 = nI G) (d : Nat → Nat) :
    ∃ d1 d2 d3, fXX1_fill_1 nb (nI 0) (nI (nb * 1024)) (nI 0) (XD σ d) = some (XD σ (wrF d 0 (nb * 1024) 0)) ∧ fXX3_lay_4 nb (XD σ (wrF d 0 (nb * 1024) 0)) = some (XD (stS σ 5 (nI P)) d1) ∧ fXX3_lay_5 nb (XD (stS σ 5 (nI P)) d1) = some (XD (stS (stS σ 5 (nI P)) 6 (nI G)) d2) ∧ fXX6_lay_9_1 nb (nI I) (XD (stS (stS σ 5 (nI P)) 6 (nI G)) d2) = some (XD (stS (stS σ 5 (nI P)) 6 (nI G)) d3) ∧ DX nb (V0 nb P Q G I M) d3 ∧ Sc (V0 nb P Q G I M) (stS (stS σ 5 (nI P)) 6 (nI G)) := by
  have B := V0_B L I M
  have hg : 8 ≤ G ∧ G ≤ 2064 ∧ 64 ≤ P ∧ P ≤ 256 ∧ 1 ≤ Q ∧ Q ≤ 8 ∧ Q * G ≤ 2064 ∧ 128 ≤ nb ∧ nb ≤ 512 ∧ G % 8 = 0 ∧ 12 ≤ Q * G ∧ 12 + G / 8 ≤ P := G_lt B
  have Sw0 : Sw (V0 nb P Q G I M) σ := ⟨s2, s3, s4⟩
  have fi := fill_X (nb := nb) (a := 0) (b := nb * 1024) σ d 0 (by omega) (by omega) (by omega)
  have z0 : ∀ a, a < nb * 1024 → wrF d 0 (nb * 1024) 0 a = 0 := fun a ha => if_pos ⟨Nat.zero_le _, ha⟩
  generalize hd0 : wrF d 0 (nb * 1024) 0 = d0 at *
  obtain ⟨d1, a1, a2, a3⟩ := lay4_X B Sw0 d0 (fun x k hx => V0_ub L I M x k hx)
  have Sw1 : Sw (V0 nb P Q G I M) (stS σ 5 (nI P)) := ⟨s2, s3, s4⟩
  obtain ⟨d2, b1, b2, b3⟩ := lay5_X B Sw1 d1 (fun x k hx => V0_ui nb P Q G I M x k)
  have SS : Sc (V0 nb P Q G I M) (stS (stS σ 5 (nI P)) 6 (nI G)) := ⟨s2, s3, s4, rfl, rfl⟩
  have a1 : ∀ x m, x < Q → m < 1024 → d1 (1024 * (1 + x * P + 2) + m) = bits8 (fun t => ub (V0 nb P Q G I M) x (8 * m + t)) := a1
  have a2 : ∀ a, (∀ x, x < Q → a / 1024 ≠ 1 + x * P + 2) → d1 a = d0 a := a2
  have b1 : ∀ x m, x < Q → m < 1024 → d2 (1024 * (1 + x * P + 3) + m) = bits8 (fun t => ui (V0 nb P Q G I M) x (8 * m + t)) := b1
  have b2 : ∀ a, (∀ x, x < Q → a / 1024 ≠ 1 + x * P + 3) → d2 a = d1 a := b2
  have sep : ∀ x y r s, x < Q → y < Q → r < 12 + G / 8 → s < 12 + G / 8 → r ≠ s → 1 + x * P + r ≠ 1 + y * P + s := fun x y r s hx hy hr hs hrs e => by
    have h1 := L.blk (x := x) (r := r) (by omega); have h2 := L.blk (x := y) (r := s) (by omega)
    have : x * P + r = y * P + s := by omega
    rw [this] at h1
    exact hrs (h1.2.symm.trans h2.2)
  have c4 : ∀ x m, x < Q → m < 1024 → d2 (1024 * (1 + x * P + 2) + m) = bits8 (fun t => ub (V0 nb P Q G I M) x (8 * m + t)) := fun x m hx hm => by
    rw [b2 _ (fun y hy => by rw [show (1024 * (1 + x * P + 2) + m) / 1024 = 1 + x * P + 2 by omega]; exact sep x y 2 3 hx hy (by omega) (by omega) (by omega))]
    exact a1 x m hx hm
  have cz : ∀ x r o, x < Q → r < 4 + G / 8 → r ≠ 2 → r ≠ 3 → o < 1024 → d2 (1024 * (1 + x * P + r) + o) = 0 := fun x r o hx hr h2 h3 ho => by
    have hgr := L.grp hx
    have ed : (1024 * (1 + x * P + r) + o) / 1024 = 1 + x * P + r := by omega
    rw [b2 _ (fun y hy => by rw [ed]; exact sep x y r 3 hx hy (by omega) (by omega) h3), a2 _ (fun y hy => by rw [ed]; exact sep x y r 2 hx hy (by omega) (by omega) h2)]
    exact z0 _ (by omega)
  have cb : ∀ o, o < 1024 → d2 o = 0 := fun o ho => by
    rw [b2 _ (fun y hy => by omega), a2 _ (fun y hy => by omega)]
    exact z0 _ (by omega)
  have c0 : ∀ a, 1024 ≤ a → a < 3072 → d2 a = 0 := fun a h1 h2 => by
    by_cases c : a < 2048
    · have := cz 0 0 (a - 1024) (by omega) (by omega) (by omega) (by omega) (by omega)
      rw [show 1024 * (1 + 0 * P + 0) + (a - 1024) = a by omega] at this; exact this
    · have := cz 0 1 (a - 2048) (by omega) (by omega) (by omega) (by omega) (by omega)
      rw [show 1024 * (1 + 0 * P + 1) + (a - 2048) = a by omega] at this; exact this
  obtain ⟨d3, e1, e2, e3⟩ := headL_X B (V0_CB nb P Q G I M) (V0_CI nb P Q G I M) (V0_CD nb P Q G I M) SS c0 c4 b1 (fun x k hx hk => by
    have hk' : k < G := hk
    have hx' : x < Q := hx
    show rd2 d2 (1024 * (1 + x * P + 4) + k * 128) = 0
    have q1 := cz x (4 + k / 8) (k % 8 * 128) hx' (by omega) (by omega) (by omega) (by omega)
    have q2 := cz x (4 + k / 8) (k % 8 * 128 + 1) hx' (by omega) (by omega) (by omega) (by omega)
    rw [show 1024 * (1 + x * P + (4 + k / 8)) + k % 8 * 128 = 1024 * (1 + x * P + 4) + k * 128 by omega] at q1
    rw [show 1024 * (1 + x * P + (4 + k / 8)) + (k % 8 * 128 + 1) = 1024 * (1 + x * P + 4) + k * 128 + 1 by omega] at q2
    unfold rd2; rw [q1, q2]) (fun i => by rw [V0_kd]; omega)
  have e1 : ∀ x a, x < Q → a < 2048 → d3 (1024 * (1 + x * P) + a) = TE nb (V0 nb P Q G I M) x a := e1
  have e2 : ∀ a, (∀ x, x < Q → ¬ (1024 * (1 + x * P) ≤ a ∧ a < 1024 * (1 + x * P) + 2048)) → d3 a = d2 a := e2
  have far : ∀ x r o, x < Q → 2 ≤ r → r < 4 + G / 8 → o < 1024 → d3 (1024 * (1 + x * P + r) + o) = d2 (1024 * (1 + x * P + r) + o) := fun x r o hx h2 hr ho => e2 _ (fun y hy z => by
    rcases (show 1024 * (1 + x * P + r) + o < 1024 * (1 + y * P) + 1024 ∨ 1024 * (1 + y * P) + 1024 ≤ 1024 * (1 + x * P + r) + o by omega) with w | w
    · exact sep x y r 0 hx hy (by omega) (by omega) (by omega) (by omega)
    · exact sep x y r 1 hx hy (by omega) (by omega) (by omega) (by omega))
  refine ⟨d1, d2, d3, fi, a3, b3, e3, V0_DX L I M (fun o ho => ?_) e1 (fun x m hx hm => ?_) (fun x m hx hm => ?_) (fun x r o hx h4 hr ho => ?_), SS⟩
  · rw [e2 o (fun x hx => by omega)]; exact cb o ho
  · rw [far x 2 m hx (by omega) (by omega) hm]; exact c4 x m hx hm
  · rw [far x 3 m hx (by omega) (by omega) hm]; exact b1 x m hx hm
  · rw [far x r o hx (by omega) hr ho]; exact cz x r o hx hr (by omega) (by omega) ho
set_option maxRecDepth 4096 in
theorem p_format (nb : Nat) (h1 : 128 ≤ nb) (h5 : nb ≤ 512) : St_format nb (INV nb) := by
  rintro σ τ a0 a1 a2 I
  obtain ⟨p, hp, rfl⟩ := nI_all a0
  obtain ⟨n, hn, rfl⟩ := nI_all a1
  obtain ⟨id, hid, rfl⟩ := nI_all a2
  have k10 : (nI 1 = nI 0) = False := eq_false nI10
  -- refused
  have ref : fXX2_choose_3 nb (nI p) (nI n) σ = some (nI 0, σ) → fMX12_format_0 nb (nI p) (nI n) (nI id) τ = some (nI 0, stS τ 0 (nI 1)) → ∃ (o1 : (Nat × Int32 × XS)) (o2 : (Int32 × XS)), fXX0_format_0 nb (nI p) (nI n) (nI id) σ = some o1 ∧ fMX12_format_0 nb (nI p) (nI n) (nI id) τ = some o2 ∧ INV nb o1.2.2 o2.2 ∧ ((o1.1 = 0 ∧ o2.2.1 0 = 0 ∧ o1.2.1 = o2.1) ∨ (o1.1 = 3 ∧ o2.2.1 0 = 1)) := fun hc hm =>
    ⟨(3, nI 0, σ), (nI 0, stS τ 0 (nI 1)), by simp only [fXX0_format_0, fXX0_format_0_0, hc, obs, lit, litN, if_true], hm, INV_t I _, .inr ⟨rfl, stS_e τ 0 (nI 1)⟩⟩
  by_cases bad : ¬ (p = 64 ∨ p = 128 ∨ p = 256) ∨ nI n < nI 12 ∨ ¬ nI n ≤ nI 2000
  · exact ref (choose_N hp bad σ) (fmt_N hp bad τ)
  · have hP : p = 64 ∨ p = 128 ∨ p = 256 := Classical.byContradiction (fun z => bad (.inl z))
    have hn31 : n < 2147483648 := by
      rcases Nat.lt_or_ge n 2147483648 with w | w
      · exact w
      · exact absurd (.inr (.inl (Int32.lt_trans (nI_neg w hn) (by decide +kernel)))) bad
    have n12 : 12 ≤ n := by
      rcases Nat.lt_or_ge n 12 with w | w
      · exact absurd (.inr (.inl (by rw [nI_ltI' (by omega) (by omega)]; exact w))) bad
      · exact w
    have n2000 : n ≤ 2000 := by
      rcases Nat.lt_or_ge 2000 n with w | w
      · exact absurd (.inr (.inr (by rw [nI_leI' (by omega) (by omega)]; omega))) bad
      · exact w
    have cX := choose_X h1 h5 hP n12 n2000 σ
    have cM := fmt_Y (i := nI id) h1 h5 hP n12 n2000 τ
    by_cases c : 12 + nR nb p n ≤ nb - 1 - (nQ nb p - 1) * p
    · rw [if_pos c] at cX cM
      have L := nLay h1 h5 hP n12 n2000 c
      generalize nQ nb p = Q at *
      generalize 8 * nR nb p n = G at *
      obtain ⟨d, hd⟩ : ∃ d : Nat → Nat, σ.2.1 0 = fun a => sb (d a) := by
        rcases I.2.2 with ⟨_, _, hd, _⟩ | ⟨V, d, f, h, H⟩
        · exact ⟨fun _ => 0, hd⟩
        · exact ⟨d, H.2.1⟩
      obtain ⟨f, hf⟩ : ∃ f : Nat → Nat, τ.2.1 0 = fun a => sb (f a) := by
        rcases I.2.2 with ⟨_, _, _, f, hf⟩ | ⟨V, d, f, h, H⟩
        · exact ⟨f, hf⟩
        · exact ⟨f, H.2.2.2.2.2.2.2.1⟩
      obtain ⟨M, hM⟩ : ∃ M : Nat, τ.1 2 = nI M := by
        rcases I.2.2 with ⟨_, h2, _⟩ | ⟨V, d, f, h, H⟩
        · exact ⟨0, h2⟩
        · exact ⟨1, RM1 H.1 H.2.2.2.2.2.2.2.2.1⟩
      obtain ⟨w, r, t, t1, t2, t3, t4, t5, t6, t7⟩ := I.1
      obtain ⟨g, hg⟩ := I.2.1
      -- the class
      have e0 : XD (stS (stS (stS σ 2 (nI p)) 3 (nI Q)) 4 (nI G)) d = stS (stS (stS σ 2 (nI p)) 3 (nI Q)) 4 (nI G) := XDe hd
      have σk : ∀ k, k ≠ 2 → k ≠ 3 → k ≠ 4 → (stS (stS (stS σ 2 (nI p)) 3 (nI Q)) 4 (nI G)).1 k = σ.1 k := fun k k2 k3 k4 => by rw [stS_k _ _ _ k4, stS_k _ _ _ k3, stS_k _ _ _ k2]
      have s2 : (stS (stS (stS σ 2 (nI p)) 3 (nI Q)) 4 (nI G)).1 2 = nI p := by rw [stS_k _ _ _ (by omega), stS_k _ _ _ (by omega)]; exact stS_e σ 2 (nI p)
      have s3 : (stS (stS (stS σ 2 (nI p)) 3 (nI Q)) 4 (nI G)).1 3 = nI Q := by rw [stS_k _ _ _ (by omega)]; exact stS_e _ 3 (nI Q)
      have s4 : (stS (stS (stS σ 2 (nI p)) 3 (nI Q)) 4 (nI G)).1 4 = nI G := stS_e _ 4 (nI G)
      have σa : ∀ k, (stS (stS (stS σ 2 (nI p)) 3 (nI Q)) 4 (nI G)).2.1 k = σ.2.1 k := fun _ => rfl
      generalize hσ : stS (stS (stS σ 2 (nI p)) 3 (nI Q)) 4 (nI G) = σ1 at *
      obtain ⟨d1, d2, d3, y1, y2, y3, y4, D3, S3⟩ := laid_X L id M s2 s3 s4 d
      rw [e0] at y1
      obtain ⟨V, d4, AF, D4, y5⟩ := takes_X (V0_B L id M) S3 D3 (V0_CI nb p Q G id M) (V0_kd nb p Q G id M)
      obtain ⟨d5, D5, y6⟩ := rootX_X L hid AF S3 D4
      obtain ⟨pr, bS, bo⟩ := bg_Pre L hid AF
      obtain ⟨GW, -⟩ := root_G pr
      -- the reference
      have hgl : 8 ≤ G ∧ G ≤ 2064 ∧ 64 ≤ p ∧ p ≤ 256 ∧ 1 ≤ Q ∧ Q ≤ 8 ∧ Q * G ≤ 2064 ∧ 128 ≤ nb ∧ nb ≤ 512 ∧ G % 8 = 0 ∧ 12 ≤ Q * G ∧ 12 + G / 8 ≤ p := G_lt (V0_B L id M)
      have ef : XD (fmS τ p Q G (nI id)) f = fmS τ p Q G (nI id) := XDe hf
      have u8 : (fmS τ p Q G (nI id)).1 8 = nI id := stS_e _ 8 _
      have u6 : (fmS τ p Q G (nI id)).1 6 = nI (G / 8) := by unfold fmS; rw [stS_k _ _ _ (by omega)]; exact stS_e _ 6 _
      have u5 : (fmS τ p Q G (nI id)).1 5 = nI G := by unfold fmS; rw [stS_k _ _ _ (by omega), stS_k _ _ _ (by omega)]; exact stS_e _ 5 _
      have u7 : (fmS τ p Q G (nI id)).1 7 = nI Q := by unfold fmS; rw [stS_k _ _ _ (by omega), stS_k _ _ _ (by omega), stS_k _ _ _ (by omega)]; exact stS_e _ 7 _
      have u4 : (fmS τ p Q G (nI id)).1 4 = nI p := by unfold fmS; rw [stS_k _ _ _ (by omega), stS_k _ _ _ (by omega), stS_k _ _ _ (by omega), stS_k _ _ _ (by omega)]; exact stS_e _ 4 _
      have u0 : (fmS τ p Q G (nI id)).1 0 = nI 0 := by unfold fmS; rw [stS_k _ _ _ (by omega), stS_k _ _ _ (by omega), stS_k _ _ _ (by omega), stS_k _ _ _ (by omega), stS_k _ _ _ (by omega)]; exact stS_e _ 0 _
      have uk : ∀ k, (k = 1 ∨ k = 2) → (fmS τ p Q G (nI id)).1 k = τ.1 k := fun k hk => by unfold fmS; rw [stS_k _ _ _ (by omega), stS_k _ _ _ (by omega), stS_k _ _ _ (by omega), stS_k _ _ _ (by omega), stS_k _ _ _ (by omega), stS_k _ _ _ (by omega), stS_k _ _ _ (by omega)]
      have ua : ∀ k, (fmS τ p Q G (nI id)).2.1 k = τ.2.1 k := fun _ => rfl
      generalize hτ : fmS τ p Q G (nI id) = τ1 at *
      obtain ⟨τ2, ⟨v1, v2, v3⟩, v4, v5⟩ := usedL_M (nb := nb) (P := p) (G := G) h5 (by omega) (by omega) f u4 u6
      obtain ⟨τ3, ⟨w1, w2⟩, w3, w4, w5⟩ := kindL_M (nb := nb) τ2 f
      have R0 := pre_RM pr (P := p) (G := G) (Q := Q) (I := id) (M := M) ⟨congrFun bS 0, congrFun bS 1, congrFun bS 2, congrFun bS 3, congrFun bS 4⟩ bo f (by rw [w1, v1, uk 2 (by omega)]; exact hM) (by rw [w1, v1]; exact u4) (by rw [w1, v1]; exact u5) (by rw [w1, v1]; exact u6) (by rw [w1, v1]; exact u7) (by rw [w1, v1]; exact u8) (fun b b1 b2 => by rw [w2 4 (by omega)]; exact v4 b b1 b2) w3 w4
      obtain ⟨τ4, f4, R4, x1, x2, x3, x4, x5⟩ := rootM_M pr R0
      rw [ef] at v5
      have k0 : τ4.1 0 = nI 0 := by rw [x1 0 (by omega) (by omega) (by omega), w1, v1]; exact u0
      have SW : Sc (setS (rtV (bgV V) (vbl (addB (bgV V) 2) 2 0)) 4 1) (stS (stS (stS (stS σ1 5 (nI p)) 6 (nI G)) 0 (nI 1)) 1 (nI 2)) := by
        have eS : ∀ k, k ≠ 4 → (setS (rtV (bgV V) (vbl (addB (bgV V) 2) 2 0)) 4 1).1 k = (addB (bgV V) 2).1 k := fun k hk => if_neg hk
        obtain ⟨l2, P2, m2, z2, hf2⟩ := Pre_P pr
        have hgB := G_lt pr.1.1
        have e2 : (addB (bgV V) 2).1 = (bgV V).1 := (addB_S pr.1 (i := 2) (by omega) (by omega) l2 P2 hf2).2.2.2.2.1.1
        unfold Sc vP vQ vG
        rw [eS 0 (by omega), eS 1 (by omega), eS 2 (by omega), e2, bS]
        exact S3
      generalize hW : setS (rtV (bgV V) (vbl (addB (bgV V) 2) 2 0)) 4 1 = W at *
      refine ⟨(0, nI (nfb W), XD (stS (stS (stS (stS σ1 5 (nI p)) 6 (nI G)) 0 (nI 1)) 1 (nI 2)) d5), (nI (nfb W), XD τ4 f4), ?_, ?_, ⟨?_, ⟨g, ?_⟩, .inr ⟨W, d5, f4, 2, GW, rfl, D5, SW, ?_, ?_, ?_, rfl, ?_, x3, .inl x2⟩⟩, .inl ⟨rfl, k0, rfl⟩⟩
      · have ln := length_X nb σ1
        rw [← y6, ← y5]
        simp only [fXX0_format_0, fXX0_format_0_0, cX, obs, lit, litN, k10, if_false, ln, y1, y2, y3, y4]
      · rw [cM, v5, w5]; exact x5
      · refine ⟨w, r, t, t1, ?_, ?_, fun k hk => ?_, fun k hk => ?_, fun k hk => ?_, fun k hk => ?_⟩
        · show (stS (stS (stS (stS σ1 5 (nI p)) 6 (nI G)) 0 (nI 1)) 1 (nI 2)).1 8 = nI t
          rw [stS_k _ _ _ (by omega), stS_k _ _ _ (by omega), stS_k _ _ _ (by omega), stS_k _ _ _ (by omega), σk 8 (by omega) (by omega) (by omega)]; exact t2
        · show τ4.1 1 = nI t
          rw [x1 1 (by omega) (by omega) (by omega), w1, v1, uk 1 (by omega)]; exact t3
        · rw [XD_o _ _ (by omega)]; show σ1.2.1 6 k = _; rw [σa]; exact t4 k hk
        · rw [XD_o _ _ (by omega), x4 2 (by omega), w2 2 (by omega), v2 2 (by omega), ua]; exact t5 k hk
        · rw [XD_o _ _ (by omega)]; show σ1.2.1 7 k = _; rw [σa]; exact t6 k hk
        · rw [XD_o _ _ (by omega), x4 3 (by omega), w2 3 (by omega), v2 3 (by omega), ua]; exact t7 k hk
      · rw [XD_o _ _ (by omega), x4 1 (by omega), w2 1 (by omega), v2 1 (by omega), ua]; exact hg
      · show (stS (stS (stS (stS σ1 5 (nI p)) 6 (nI G)) 0 (nI 1)) 1 (nI 2)).1 0 = nI 1
        rw [stS_k _ _ _ (by omega)]; exact stS_e (stS (stS σ1 5 (nI p)) 6 (nI G)) 0 (nI 1)
      · exact stS_e (stS (stS (stS σ1 5 (nI p)) 6 (nI G)) 0 (nI 1)) 1 (nI 2)
      · exact GW.2.2.2.2.2.1.2.2.2.2.1
      · exact RM_tau R4 (fun _ _ => rfl) (fun k k1 k2 => XD_o _ _ (by omega)) rfl
    · rw [if_neg c] at cX cM
      exact ref cX cM
set_option maxRecDepth 4096 in
theorem pure_all : ∃ I : Nat → XS → XS → Prop, (∀ nb, 128 ≤ nb → nb ≤ 512 → St_all nb (I nb)) ∧ ∀ nb, 128 ≤ nb → nb ≤ 512 → I nb sX0 sM0 :=
  ⟨INV, fun nb h1 h5 => ⟨p_feed nb, p_end nb, p_format nb h1 h5, p_byteAt nb h1 h5, p_fault nb, p_many nb h5, p_items nb h5, p_letter nb h5, p_about nb h5, p_content nb h5, p_enter nb h5, p_up nb h5, p_make nb h5, p_write nb h5, p_grow nb h5, p_cut nb h5, p_remove nb h5, p_stamp nb h5⟩, fun nb _ _ => INV_0 nb⟩
