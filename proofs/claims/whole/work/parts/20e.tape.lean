def arrF (σ : XS) (m : Nat) (g : Nat → Int32) : XS := (σ.1, va_up σ.2.1 m g, σ.2.2)
set_option maxRecDepth 4096 in
theorem arrF_e (σ : XS) (m : Nat) : arrF σ m (σ.2.1 m) = σ := by
  refine XS_ext rfl (fun k x => ?_) rfl
  show va_up σ.2.1 m (σ.2.1 m) k x = σ.2.1 k x
  by_cases c : k = m
  · rw [c, va_up_self]
  · rw [va_up_ne _ _ c]
set_option maxRecDepth 4096 in
theorem arrF_at (σ : XS) (m : Nat) (g : Nat → Int32) (x : Nat) : (arrF σ m g).2.1 m x = g x := by show va_up σ.2.1 m g m x = _; rw [va_up_self]
set_option maxRecDepth 4096 in
theorem arrF_k (σ : XS) (m : Nat) (g : Nat → Int32) {k : Nat} (h : k ≠ m) : (arrF σ m g).2.1 k = σ.2.1 k := va_up_ne _ _ h
set_option maxRecDepth 4096 in
theorem arrF_s (σ : XS) (m : Nat) {g g' : Nat → Int32} {x : Nat} {v : Int32} (h : ∀ k, g' k = if k = x then v else g k) : stA (arrF σ m g) m x v = arrF σ m g' := by
  refine XS_ext rfl (fun k y => ?_) rfl
  rw [stA_at]
  by_cases c : k = m
  · subst c
    rw [arrF_at, arrF_at, h]
    by_cases e : y = x
    · rw [if_pos ⟨rfl, e⟩, if_pos e]
    · rw [if_neg (fun z => e z.2), if_neg e]
  · rw [if_neg (fun z => c z.1), arrF_k _ _ _ c, arrF_k _ _ _ c]
set_option maxRecDepth 4096 in
theorem INV_tape {nb : Nat} {σ τ σ' τ' : XS} (I : INV nb σ τ) (a1 : ∀ k, k ≠ 8 → σ'.1 k = σ.1 k) (a2 : ∀ k, k ≠ 6 → k ≠ 7 → σ'.2.1 k = σ.2.1 k) (b1 : ∀ k, k ≠ 0 → k ≠ 1 → τ'.1 k = τ.1 k) (b2 : ∀ k, k ≠ 2 → k ≠ 3 → τ'.2.1 k = τ.2.1 k) (b3 : τ'.2.2 = τ.2.2) (T : TapeR σ' τ') : INV nb σ' τ' := by
  obtain ⟨_, ⟨g, hg⟩, I3⟩ := I
  refine ⟨T, ⟨g, by rw [b2 1 (by omega) (by omega)]; exact hg⟩, ?_⟩
  rcases I3 with ⟨h0, h2, hd, f, hf⟩ | ⟨V, d, f, h, G, hd, D, S, m1, h1, hkd, hf, R, h9, sh⟩
  · exact .inl ⟨by rw [a1 0 (by omega)]; exact h0, by rw [b1 2 (by omega) (by omega)]; exact h2, by rw [a2 0 (by omega) (by omega)]; exact hd, f, by rw [b2 0 (by omega) (by omega)]; exact hf⟩
  · refine .inr ⟨V, d, f, h, G, by rw [a2 0 (by omega) (by omega)]; exact hd, D, ?_, by rw [a1 0 (by omega)]; exact m1, by rw [a1 1 (by omega)]; exact h1, hkd, by rw [b2 0 (by omega) (by omega)]; exact hf, RM_tau R (fun k hk => b1 k (by omega) (by omega)) (fun k k1 k2 => b2 k (by omega) (by omega)) b3, by rw [b1 9 (by omega) (by omega)]; exact h9, ?_⟩
    · obtain ⟨s1, s2, s3, s4, s5⟩ := S
      exact ⟨by rw [a1 2 (by omega)]; exact s1, by rw [a1 3 (by omega)]; exact s2, by rw [a1 4 (by omega)]; exact s3, by rw [a1 5 (by omega)]; exact s4, by rw [a1 6 (by omega)]; exact s5⟩
    · unfold SHW; rw [b1 3 (by omega) (by omega), b2 1 (by omega) (by omega)]; exact sh
def prS (σ : XS) (w v : Nat) : XS := stA (stA (stA (stA σ 7 (4 * w) (sb (v / 2 ^ 24))) 7 (4 * w + 1) (sb (v / 2 ^ 16))) 7 (4 * w + 2) (sb (v / 2 ^ 8))) 7 (4 * w + 3) (sb v)
set_option maxRecDepth 4096 in
theorem prep_X (nb : Nat) (σ : XS) {w : Nat} (v : Nat) (hw : w < 5) : fXX8_prepare_16 nb (nI w) (nI v) σ = some (prS σ w v) := by
  have s : ∀ (i : Nat), i < 4 → ∀ K ρ, fXX8_prepare_16_2 nb K (nI w) (nI v) (nI i) ρ = K (nI w, nI v, nI (i + 1), stA ρ 7 (4 * w + i) (sb (v / 2 ^ (24 - 8 * i)))) := fun i hi K ρ => by
    have e : ((nI v) >>> ((nI 24 - nI (8 * i)) &&& nI 31)).toInt8.toInt32 = sb (v / 2 ^ (24 - 8 * i)) := by
      rw [nI_sub (by omega), nI_sh31 (by omega), sb_shr v _ (by omega)]
    simp (disch := omega) only [fXX8_prepare_16_2, fXX8_prepare_16_46, lit, litN, nI_mul, nI_add, nI_ltI', nI_leI', nI_eqI, nI_clampI, n_or, if_neg, e, nar_sb]
  have s4 : ∀ K ρ, fXX8_prepare_16_2 nb K (nI w) (nI v) (nI 4) ρ = some ρ := fun K ρ => by
    simp (disch := omega) only [fXX8_prepare_16_2, lit, litN, nI_ltI', nI_leI', nI_eqI, nI_clampI, if_pos]
  simp only [fXX8_prepare_16, fXX8_prepare_16_0, lit, litN]
  rw [lf2, s 0 (by omega), s 1 (by omega), show (1099511627774 : Nat) = 1099511627770 + 1 + 1 + 1 + 1 from rfl, lf2n, s 2 (by omega), s 3 (by omega), lf2n, s4]
  unfold prS
  simp only [Nat.add_zero, Nat.mul_zero, Nat.sub_zero, Nat.reduceMul, Nat.reduceSub, Nat.pow_zero, Nat.div_one]
def fdv (a b c d e k : Nat) : Nat := (if k < 4 then a else if k < 8 then b else if k < 12 then c else if k < 16 then d else e) / 2 ^ (24 - 8 * (k % 4))
set_option maxRecDepth 4096 in
theorem p_feed (nb : Nat) : St_feed nb (INV nb) := by
  intro σ τ x0 x1 x2 x3 x4 I
  obtain ⟨a, ha, rfl⟩ := nI_all x0
  obtain ⟨b, hb, rfl⟩ := nI_all x1
  obtain ⟨c, hc, rfl⟩ := nI_all x2
  obtain ⟨d, hd, rfl⟩ := nI_all x3
  obtain ⟨e, he, rfl⟩ := nI_all x4
  have key : ∃ r : XS, r = arrF (stS τ 0 (nI 0)) 3 (fun k => if k < 20 then sb (fdv a b c d e k) else τ.2.1 3 k) ∧ ∀ u : Unit, lfix ((fun _ k8 t => fMX12_feed_0_8 nb k8 t.1 t.2.1 t.2.2.1 t.2.2.2.1 t.2.2.2.2.1 t.2.2.2.2.2.1 t.2.2.2.2.2.2) u) FU (nI a, nI b, nI c, nI d, nI e, nI 0, arrF (stS τ 0 (nI 0)) 3 (τ.2.1 3)) = some r := by
    refine lfor (κ := Unit) (fun _ k8 t => fMX12_feed_0_8 nb k8 t.1 t.2.1 t.2.2.1 t.2.2.2.1 t.2.2.2.2.1 t.2.2.2.2.2.1 t.2.2.2.2.2.2) (fun i (r : XS) => (nI a, nI b, nI c, nI d, nI e, nI i, r)) (fun _ r => some r) 20 (fun i r => r = arrF (stS τ 0 (nI 0)) 3 (fun k => if k < i then sb (fdv a b c d e k) else τ.2.1 3 k)) ?_ ?_ 0 (arrF (stS τ 0 (nI 0)) 3 (τ.2.1 3)) FU (by omega) ?_ (by unfold FU; omega)
    · rintro i r hi rfl
      refine ⟨_, rfl, fun _ K => ?_⟩
      have hs : ∀ v : Nat, stA (arrF (stS τ 0 (nI 0)) 3 (fun k => if k < i then sb (fdv a b c d e k) else τ.2.1 3 k)) 3 i (sb (fdv a b c d e i)) = arrF (stS τ 0 (nI 0)) 3 (fun k => if k < i + 1 then sb (fdv a b c d e k) else τ.2.1 3 k) := fun _ => by
        refine arrF_s _ _ (fun k => ?_)
        show (if k < i + 1 then sb (fdv a b c d e k) else τ.2.1 3 k) = if k = i then sb (fdv a b c d e i) else if k < i then sb (fdv a b c d e k) else τ.2.1 3 k
        by_cases z : k = i
        · rw [if_pos z, z, if_pos (by omega)]
        · rw [if_neg z]; by_cases z2 : k < i
          · rw [if_pos z2, if_pos (by omega)]
          · rw [if_neg z2, if_neg (by omega)]
      have hs := hs 0
      have ev : ∀ v : Nat, ((nI v) >>> ((nI 24 - nI (8 * (i % 4))) &&& nI 31)).toInt8.toInt32 = sb (v / 2 ^ (24 - 8 * (i % 4))) := fun v => by
        rw [nI_sub (by omega), nI_sh31 (by omega), sb_shr v _ (by omega)]
      have es : i - i / 4 * 4 = i % 4 := n_sdm i 4
      by_cases c1 : i < 4
      · have ef : fdv a b c d e i = a / 2 ^ (24 - 8 * (i % 4)) := by unfold fdv; rw [if_pos c1]
        rw [ef] at hs
        simp (disch := omega) only [fMX12_feed_0_8, fMX12_feed_0_61, lit, litN, nI_ltI', nI_leI', nI_eqI, nI_clampI, n_or, if_neg, if_pos, nI_div, nI_mul, nI_sub_dm, es, ev, nar_sb, hs, nI_add]
      by_cases c2 : i < 8
      · have ef : fdv a b c d e i = b / 2 ^ (24 - 8 * (i % 4)) := by unfold fdv; rw [if_neg c1, if_pos c2]
        rw [ef] at hs
        simp (disch := omega) only [fMX12_feed_0_8, fMX12_feed_0_61, lit, litN, nI_ltI', nI_leI', nI_eqI, nI_clampI, n_or, if_neg, if_pos, nI_div, nI_mul, nI_sub_dm, es, ev, nar_sb, hs, nI_add]
      by_cases c3 : i < 12
      · have ef : fdv a b c d e i = c / 2 ^ (24 - 8 * (i % 4)) := by unfold fdv; rw [if_neg c1, if_neg c2, if_pos c3]
        rw [ef] at hs
        simp (disch := omega) only [fMX12_feed_0_8, fMX12_feed_0_61, lit, litN, nI_ltI', nI_leI', nI_eqI, nI_clampI, n_or, if_neg, if_pos, nI_div, nI_mul, nI_sub_dm, es, ev, nar_sb, hs, nI_add]
      by_cases c4 : i < 16
      · have ef : fdv a b c d e i = d / 2 ^ (24 - 8 * (i % 4)) := by unfold fdv; rw [if_neg c1, if_neg c2, if_neg c3, if_pos c4]
        rw [ef] at hs
        simp (disch := omega) only [fMX12_feed_0_8, fMX12_feed_0_61, lit, litN, nI_ltI', nI_leI', nI_eqI, nI_clampI, n_or, if_neg, if_pos, nI_div, nI_mul, nI_sub_dm, es, ev, nar_sb, hs, nI_add]
      · have ef : fdv a b c d e i = e / 2 ^ (24 - 8 * (i % 4)) := by unfold fdv; rw [if_neg c1, if_neg c2, if_neg c3, if_neg c4]
        rw [ef] at hs
        simp (disch := omega) only [fMX12_feed_0_8, fMX12_feed_0_61, lit, litN, nI_ltI', nI_leI', nI_eqI, nI_clampI, n_or, if_neg, if_pos, nI_div, nI_mul, nI_sub_dm, es, ev, nar_sb, hs, nI_add]
    · rintro r rfl _ K
      simp (disch := omega) only [fMX12_feed_0_8, lit, litN, nI_ltI', nI_leI', nI_eqI, nI_clampI, if_pos]
    · congr 1
  obtain ⟨r, hr, h⟩ := key
  have h' := h ()
  rw [show arrF (stS τ 0 (nI 0)) 3 (τ.2.1 3) = stS τ 0 (nI 0) from arrF_e (stS τ 0 (nI 0)) 3] at h'
  refine ⟨prS (prS (prS (prS (prS σ 0 a) 1 b) 2 c) 3 d) 4 e, r, ?_, ?_, ?_⟩
  · simp (disch := omega) only [fXX0_feed_0, fXX0_feed_0_0, lit, litN, prep_X, obs]
  · simp only [fMX12_feed_0, fMX12_feed_0_0, lit, litN]
    exact h'
  · obtain ⟨w, rr, t, t1, t2, t3, t4, t5, t6, t7⟩ := I.1
    have k7 : ∀ (ρ : XS) (w v k : Nat), k ≠ 7 → (prS ρ w v).2.1 k = ρ.2.1 k := fun ρ w v k hk => by
      unfold prS; rw [stA_k _ _ _ _ hk, stA_k _ _ _ _ hk, stA_k _ _ _ _ hk, stA_k _ _ _ _ hk]
    subst hr
    refine INV_tape I (fun k _ => rfl) (fun k h6 h7 => by rw [k7 _ _ _ _ h7, k7 _ _ _ _ h7, k7 _ _ _ _ h7, k7 _ _ _ _ h7, k7 _ _ _ _ h7]) (fun k h0 h1 => stS_k τ 0 (nI 0) h0) (fun k h2 h3 => arrF_k _ _ _ h3) rfl ?_
    refine ⟨w, fdv a b c d e, t, t1, t2, t3, fun k hk => ?_, fun k hk => ?_, fun k hk => ?_, fun k hk => ?_⟩
    · rw [k7 _ _ _ _ (by omega), k7 _ _ _ _ (by omega), k7 _ _ _ _ (by omega), k7 _ _ _ _ (by omega), k7 _ _ _ _ (by omega)]; exact t4 k hk
    · rw [arrF_k _ _ _ (by omega)]; exact t5 k hk
    · have p7 : ∀ (ρ : XS) (w v x : Nat), (prS ρ w v).2.1 7 x = if 4 * w ≤ x ∧ x < 4 * w + 4 then sb (v / 2 ^ (24 - 8 * (x - 4 * w))) else ρ.2.1 7 x := fun ρ w v x => by
        unfold prS
        rw [stA_at, stA_at, stA_at, stA_at]
        by_cases z : 4 * w ≤ x ∧ x < 4 * w + 4
        · rw [if_pos z]
          rcases (show x = 4 * w ∨ x = 4 * w + 1 ∨ x = 4 * w + 2 ∨ x = 4 * w + 3 by omega) with y | y | y | y
          · rw [if_neg (by omega), if_neg (by omega), if_neg (by omega), if_pos ⟨rfl, y⟩, show x - 4 * w = 0 by omega]
          · rw [if_neg (by omega), if_neg (by omega), if_pos ⟨rfl, y⟩, show x - 4 * w = 1 by omega]
          · rw [if_neg (by omega), if_pos ⟨rfl, y⟩, show x - 4 * w = 2 by omega]
          · rw [if_pos ⟨rfl, y⟩, show x - 4 * w = 3 by omega, show 24 - 8 * 3 = 0 from rfl, Nat.pow_zero, Nat.div_one]
        · rw [if_neg z, if_neg (by omega), if_neg (by omega), if_neg (by omega), if_neg (by omega)]
      rw [p7, p7, p7, p7, p7]
      unfold fdv
      by_cases c1 : k < 4
      · rw [if_neg (by omega), if_neg (by omega), if_neg (by omega), if_neg (by omega), if_pos (by omega), if_pos c1, show k - 4 * 0 = k % 4 by omega]
      by_cases c2 : k < 8
      · rw [if_neg (by omega), if_neg (by omega), if_neg (by omega), if_pos (by omega), if_neg c1, if_pos c2, show k - 4 * 1 = k % 4 by omega]
      by_cases c3 : k < 12
      · rw [if_neg (by omega), if_neg (by omega), if_pos (by omega), if_neg c1, if_neg c2, if_pos c3, show k - 4 * 2 = k % 4 by omega]
      by_cases c4 : k < 16
      · rw [if_neg (by omega), if_pos (by omega), if_neg c1, if_neg c2, if_neg c3, if_pos c4, show k - 4 * 3 = k % 4 by omega]
      · rw [if_pos (by omega), if_neg c1, if_neg c2, if_neg c3, if_neg c4, show k - 4 * 4 = k % 4 by omega]
    · rw [arrF_at, if_pos hk]
