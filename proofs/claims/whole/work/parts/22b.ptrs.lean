set_option maxRecDepth 4096 in
theorem mx12 {a : Nat} (h : a < 512) : (if nI 0 < nI a - nI 12 then nI a - nI 12 else nI 0) = nI (a - 12) :=
  (by decide +kernel : ∀ a, a < 512 → (if nI 0 < nI a - nI 12 then nI a - nI 12 else nI 0) = nI (a - 12)) a h
set_option maxRecDepth 4096 in
theorem mx268 {a : Nat} (h : a < 512) : (if nI 0 < nI a - nI 268 then nI a - nI 268 else nI 0) = nI (a - 268) :=
  (by decide +kernel : ∀ a, a < 512 → (if nI 0 < nI a - nI 268 then nI a - nI 268 else nI 0) = nI (a - 268)) a h
def CI (nb : Nat) (V : VV) (i : Nat) (c : Nat → Nat) : Prop := ∀ b, b < nb → c b = if vot V b = 2 ∨ (3 ≤ vot V b ∧ vot V b ≤ 6 ∧ voi V b < i) then 1 else 0
def oin (V : VV) (i : Nat) (c : Nat → Nat) (m : Nat) : Nat → Nat :=
  addC (addC (addC (addC (addC (addC c (vbl V i) (if 12 < m then 12 else m)) (fun _ => vsg V i) (if 1 < m - 12 then 1 else m - 12)) (fun _ => vdb V i) (if 1 < m - 268 then 1 else m - 268)) (fun w => vbl V i (12 + w)) (if 256 < m - 12 then 256 else m - 12)) (fun w => vrw V i w) (if 268 < m then 1 else 0)) (fun w => vbl V i (268 + w)) (if 256 < m - 268 then 256 else m - 268)
set_option maxRecDepth 4096 in
theorem oin_CI {nb : Nat} {V : VV} (A : Stc nb V) {i : Nat} (hl : live V i) (P : Shp V i) {c : Nat → Nat} (C : CI nb V i c) : CI nb V (i + 1) (oin V i c (vmn V i)) := by
  have hm := mn_lt A.1 A.2.2 hl
  have hg := G_lt A.1
  obtain ⟨O1, O2, O3, O4, O5, O6, O7, O8⟩ := A.2.2
  have hrn := P.2.2.1
  intro b hb
  by_cases c1 : vot V b = 2 ∨ (3 ≤ vot V b ∧ vot V b ≤ 6 ∧ voi V b < i)
  · have e : c b = 1 := by rw [C b hb, if_pos c1]
    rw [if_pos (by omega)]
    unfold oin
    exact addC_1 (addC_1 (addC_1 (addC_1 (addC_1 (addC_1 e _) _) _) _) _) _
  · by_cases c2 : 3 ≤ vot V b ∧ vot V b ≤ 6 ∧ voi V b = i
    · rw [if_pos (by omega)]
      obtain ⟨t1, t2, t3⟩ := c2
      unfold oin
      have h4 : vot V b = 3 ∨ vot V b = 4 ∨ vot V b = 5 ∨ vot V b = 6 := by omega
      rcases h4 with q | q | q | q
      · obtain ⟨_, k1, k2⟩ := O2 b hb q
        rw [t3] at k1 k2
        by_cases z1 : vok V b < 12
        · refine addC_1 (addC_1 (addC_1 (addC_1 (addC_1 (addC_y _ ⟨vok V b, ?_, k2⟩) _) _) _) _) _
          split <;> omega
        · by_cases z2 : vok V b < 268
          · refine addC_1 (addC_1 (addC_y _ ⟨vok V b - 12, ?_, ?_⟩) _) _
            · split <;> omega
            · show vbl V i (12 + (vok V b - 12)) = b
              rw [show 12 + (vok V b - 12) = vok V b by omega]; exact k2
          · refine addC_y _ ⟨vok V b - 268, ?_, ?_⟩
            · split <;> omega
            · show vbl V i (268 + (vok V b - 268)) = b
              rw [show 268 + (vok V b - 268) = vok V b by omega]; exact k2
      · obtain ⟨_, k1⟩ := O4 b hb q
        rw [t3] at k1
        have h0 : vsg V i ≠ 0 := by
          rw [k1]; intro z; rw [z, A.1.2.2.1] at q; omega
        have := P.1.mp h0
        refine addC_1 (addC_1 (addC_1 (addC_1 (addC_y _ ⟨0, ?_, k1⟩) _) _) _) _
        split <;> omega
      · obtain ⟨_, k1⟩ := O6 b hb q
        rw [t3] at k1
        have h0 : vdb V i ≠ 0 := by
          rw [k1]; intro z; rw [z, A.1.2.2.1] at q; omega
        have := P.2.1.mp h0
        refine addC_1 (addC_1 (addC_1 (addC_y _ ⟨0, ?_, k1⟩) _) _) _
        split <;> omega
      · obtain ⟨_, k1, k2⟩ := O8 b hb q
        rw [t3] at k1 k2
        have h268 : 268 < vmn V i := by
          by_cases z : 268 < vmn V i
          · exact z
          · rw [if_neg z] at hrn; omega
        rw [if_pos h268] at hrn
        refine addC_1 (addC_y _ ⟨vok V b, ?_, k2⟩) _
        rw [if_pos h268]; omega
    · rw [if_neg (by omega)]
      have e : c b = 0 := by rw [C b hb, if_neg c1]
      unfold oin
      have n3 : ∀ k, k < vmn V i → vbl V i k ≠ b := fun k hk z => by
        have := O1 i k hl hk; rw [z] at this; omega
      rw [addC_n _ (fun j hj => n3 _ (by split at hj <;> omega)), addC_n _ (fun j hj z => by
        by_cases h268 : 268 < vmn V i
        · rw [if_pos h268] at hj hrn
          have := O7 i j hl (by omega); rw [z] at this; omega
        · rw [if_neg h268] at hj; omega), addC_n _ (fun j hj => n3 _ (by split at hj <;> omega)), addC_n _ (fun j hj z => by
        have := O5 i hl (P.2.1.mpr (by split at hj <;> omega)); rw [z] at this; omega), addC_n _ (fun j hj z => by
        have := O3 i hl (P.1.mpr (by split at hj <;> omega)); rw [z] at this; omega), addC_n _ (fun j hj => n3 _ (by split at hj <;> omega))]
      exact e
set_option maxRecDepth 4096 in
theorem ptrs_X {nb : Nat} {V : VV} (A : Stc nb V) {ρ : XS} {d : Nat → Nat} (D : DX nb V d) {i : Nat} (h1 : 1 ≤ i) (h2 : i ≤ vQ V * vG V) (hl : live V i) (P : Shp V i) {c : Nat → Nat} (C : CI nb V i c) :
    fXX7_pointersHold_10 nb (nI (inoA (vP V) (vG V) i)) (nI (vmn V i)) (XD (XC ρ c) d) = some (nI 1, XD (XC ρ (oin V i c (vmn V i))) d) := by
  have hm := mn_lt A.1 A.2.2 hl
  have hA := inoA_lt A.1 h1 h2
  have hg := G_lt A.1
  obtain ⟨O1, O2, O3, O4, O5, O6, O7, O8⟩ := A.2.2
  have hrn := P.2.2.1
  have hbl : ∀ k, k < vmn V i → vbl V i k < 4294967296 := fun k hk => by have := O1 i k hl hk; omega
  have hpt : ∀ k, ptr V i k < 4294967296 := fun k => by
    unfold ptr; split
    · exact hbl k (by omega)
    · omega
  have c0 : ∀ b, b < nb → voi V b = i → 3 ≤ vot V b → c b = 0 := fun b hb h h3 => by rw [C b hb, if_neg (by omega)]
  have c3 : ∀ k, k < vmn V i → 1 ≤ vbl V i k ∧ vbl V i k < nb ∧ vot V (vbl V i k) = 3 ∧ voi V (vbl V i k) = i ∧ vok V (vbl V i k) = k := fun k hk => O1 i k hl hk
  have inj : ∀ j k, j < vmn V i → k < vmn V i → vbl V i j = vbl V i k → j = k := fun j k hj hk e => by
    have a := (c3 j hj).2.2.2.2; have b := (c3 k hk).2.2.2.2; rw [e] at a; omega
  have sg0 : ¬ 12 < vmn V i → vsg V i = 0 := fun q => by
    rcases Nat.eq_zero_or_pos (vsg V i) with z | z
    · exact z
    · exact absurd (P.1.mp (by omega)) q
  have db0 : ¬ 268 < vmn V i → vdb V i = 0 := fun q => by
    rcases Nat.eq_zero_or_pos (vdb V i) with z | z
    · exact z
    · exact absurd (P.2.1.mp (by omega)) q
  have o3 : 12 < vmn V i → vsg V i < nb ∧ vot V (vsg V i) = 4 ∧ voi V (vsg V i) = i ∧ vsg V i ≠ 0 := fun q => by
    have := O3 i hl (P.1.mpr q); exact ⟨this.1, this.2.1, this.2.2, P.1.mpr q⟩
  have o5 : 268 < vmn V i → vdb V i < nb ∧ vot V (vdb V i) = 5 ∧ voi V (vdb V i) = i ∧ vdb V i ≠ 0 := fun q => by
    have := O5 i hl (P.2.1.mpr q); exact ⟨this.1, this.2.1, this.2.2, P.2.1.mpr q⟩
  have o7 : 268 < vmn V i → vrn V i = 1 ∧ 1 ≤ vrw V i 0 ∧ vrw V i 0 < nb ∧ vot V (vrw V i 0) = 6 ∧ voi V (vrw V i 0) = i ∧ vok V (vrw V i 0) = 0 := fun q => by
    rw [if_pos q] at hrn
    exact ⟨hrn, O7 i 0 hl (by omega)⟩
  have rsg : rd4 d (inoA (vP V) (vG V) i + 88) = vsg V i := rd_sg A.1 D h1 h2 hl (by
    by_cases q : 12 < vmn V i
    · have := o3 q; omega
    · rw [sg0 q]; omega)
  have rdb : rd4 d (inoA (vP V) (vG V) i + 92) = vdb V i := rd_db A.1 D h1 h2 hl (by
    by_cases q : 268 < vmn V i
    · have := o5 q; omega
    · rw [db0 q]; omega)
  -- the direct ones
  have R1 := row_X (nb := nb) ρ d c (vbl V i) (a := inoA (vP V) (vG V) i + 40) (n := 12) (m := vmn V i) (by omega) (by omega) (by omega) (by omega) (fun k hk => by
    rw [Nat.add_assoc, rd_dir A.1 D h1 h2 hl hk (hpt k)]; rfl) (fun k hk hk' => ⟨(c3 k hk').1, (c3 k hk').2.1, c0 _ (c3 k hk').2.1 (c3 k hk').2.2.2.1 (by have := (c3 k hk').2.2.1; omega)⟩) (fun j k hj hk hk' e => by have := inj j k (by omega) hk' e; omega)
  -- the pointer to the indirect block
  have R2 := row_X (nb := nb) ρ d (addC c (vbl V i) (if 12 < vmn V i then 12 else vmn V i)) (fun _ => vsg V i) (a := inoA (vP V) (vG V) i + 88) (n := 1) (m := vmn V i - 12) (by omega) (by omega) (by omega) (by omega) (fun k hk => by
    have : k = 0 := by omega
    subst this
    rw [Nat.mul_zero, Nat.add_zero, rsg]
    by_cases q : 12 < vmn V i
    · rw [if_pos (by omega)]
    · rw [if_neg (by omega), sg0 q]) (fun k hk hk' => by
    obtain ⟨q1, q2, q3, q4⟩ := o3 (by omega)
    refine ⟨by omega, q1, ?_⟩
    rw [addC_n _ (fun j hj z => by
      have := c3 j (by split at hj <;> omega); rw [z] at this; omega)]
    exact c0 _ q1 q3 (by omega)) (fun j k hj hk _ => by omega)
  have R3 := row_X (nb := nb) ρ d (addC (addC c (vbl V i) (if 12 < vmn V i then 12 else vmn V i)) (fun _ => vsg V i) (if 1 < vmn V i - 12 then 1 else vmn V i - 12)) (fun _ => vdb V i) (a := inoA (vP V) (vG V) i + 92) (n := 1) (m := vmn V i - 268) (by omega) (by omega) (by omega) (by omega) (fun k hk => by
    have : k = 0 := by omega
    subst this
    rw [Nat.mul_zero, Nat.add_zero, rdb]
    by_cases q : 268 < vmn V i
    · rw [if_pos (by omega)]
    · rw [if_neg (by omega), db0 q]) (fun k hk hk' => by
    obtain ⟨q1, q2, q3, q4⟩ := o5 (by omega)
    refine ⟨by omega, q1, ?_⟩
    rw [addC_n _ (fun j hj z => by
      have := o3 (by split at hj <;> omega); rw [z] at this; omega), addC_n _ (fun j hj z => by
      have := c3 j (by split at hj <;> omega); rw [z] at this; omega)]
    exact c0 _ q1 q3 (by omega)) (fun j k hj hk _ => by omega)
  generalize hC3 : addC (addC (addC c (vbl V i) (if 12 < vmn V i then 12 else vmn V i)) (fun _ => vsg V i) (if 1 < vmn V i - 12 then 1 else vmn V i - 12)) (fun _ => vdb V i) (if 1 < vmn V i - 268 then 1 else vmn V i - 268) = C3 at *
  have C3n : ∀ b, b < nb → voi V b = i → 3 ≤ vot V b → (vot V b = 3 → 12 ≤ vok V b) → vot V b ≠ 4 → vot V b ≠ 5 → C3 b = 0 := fun b hb h h3 h3' h4 h5 => by
    rw [← hC3, addC_n _ (fun j hj z => by
      have := o5 (by split at hj <;> omega); rw [z] at this; omega), addC_n _ (fun j hj z => by
      have := o3 (by split at hj <;> omega); rw [z] at this; omega), addC_n _ (fun j hj z => by
      have := c3 j (by split at hj <;> omega); rw [z] at this; split at hj <;> omega)]
    exact c0 _ hb h h3
  -- the doubly indirect ones
  have T : ∀ C4 : Nat → Nat, (∀ b, b < nb → voi V b = i → 3 ≤ vot V b → (vot V b = 3 → 268 ≤ vok V b) → vot V b ≠ 4 → vot V b ≠ 5 → C4 b = 0) →
      fXX7_pointersHold_10_95 nb (nI (inoA (vP V) (vG V) i)) (nI (vmn V i - 268)) (XD (XC ρ C4) d) = some (nI 1, XD (XC ρ (addC (addC C4 (fun w => vrw V i w) (if 268 < vmn V i then 1 else 0)) (fun w => vbl V i (268 + w)) (if 256 < vmn V i - 268 then 256 else vmn V i - 268))) d) := by
    intro C4 h4
    have g92 := get4_X (nb := nb) (a := inoA (vP V) (vG V) i + 92) (XC ρ C4) d (by omega) (by omega)
    rw [rdb] at g92
    by_cases q : 268 < vmn V i
    · obtain ⟨d1, d2, d3, d4⟩ := o5 q
      obtain ⟨r0, r1, r2, r3, r4, r5⟩ := o7 q
      have w1 : ∀ w, w < 256 → rd4 d (vdb V i * 1024 + 4 * w) = if w < 1 then vrw V i w else 0 := fun w hw => by
        rw [Nat.mul_comm (vdb V i) 1024]
        refine rd_word D d1 (by omega) hw ?_ (fun j hj => ?_)
        · by_cases z : w < 1
          · rw [if_pos z, show w = 0 by omega]; omega
          · rw [if_neg z]; omega
        · rw [img_5 _ d2, d3, r0, show (4 * w + j) / 4 = w by omega, show (4 * w + j) % 4 = j by omega]
      have e1 : (vmn V i - 268 + 256 - 1) / 256 = 1 := by omega
      have R5 := row_X (nb := nb) ρ d C4 (fun w => vrw V i w) (a := vdb V i * 1024) (n := 256) (m := 1) (by omega) (by omega) (by omega) (by omega) w1 (fun k hk hk' => by
        have : k = 0 := by omega
        subst this
        exact ⟨r1, r2, h4 _ r2 r4 (by omega) (by omega) (by omega) (by omega)⟩) (fun j k hj hk hk' => by omega)
      rw [show (if 256 < 1 then 256 else 1) = 1 from rfl] at R5
      have g0 := get4_X (nb := nb) (a := vdb V i * 1024) (XC ρ (addC C4 (fun w => vrw V i w) 1)) d (by omega) (by omega)
      have w10 := w1 0 (by omega)
      rw [Nat.mul_zero, Nat.add_zero, if_pos (by omega)] at w10
      rw [w10] at g0
      have R6 := row_X (nb := nb) ρ d (addC C4 (fun w => vrw V i w) 1) (fun w => vbl V i (268 + w)) (a := vrw V i 0 * 1024) (n := 256) (m := vmn V i - 268) (by omega) (by omega) (by omega) (by omega) (fun w hw => by
        rw [Nat.mul_comm (vrw V i 0) 1024, rd_row D r2 r3 hw (by rw [r4]; exact hpt _), r4, r5]
        unfold ptr
        rw [show 268 + 256 * 0 + w = 268 + w by omega]
        by_cases z : w < vmn V i - 268
        · rw [if_pos (by omega), if_pos z]
        · rw [if_neg (by omega), if_neg z]) (fun k hk hk' => by
        have := c3 (268 + k) (by omega)
        refine ⟨this.1, this.2.1, ?_⟩
        rw [addC_n _ (fun j hj z => by
          have : j = 0 := by omega
          subst this
          have z' : vrw V i 0 = vbl V i (268 + k) := z
          rw [z'] at r3; omega)]
        exact h4 _ this.2.1 this.2.2.2.1 (by omega) (by omega) (by omega) (by omega)) (fun j k hj hk hk' e => by have := inj (268 + j) (268 + k) (by omega) (by omega) e; omega)
      have body : ∀ K, fXX7_pointersHold_10_150 nb K (nI (vmn V i - 268)) (nI (vdb V i * 1024)) (nI 1) (nI 0) (XD (XC ρ (addC C4 (fun w => vrw V i w) 1)) d) = K (nI (vmn V i - 268), nI (vdb V i * 1024), nI 1, nI 1, XD (XC ρ (addC (addC C4 (fun w => vrw V i w) 1) (fun w => vbl V i (268 + w)) (if 256 < vmn V i - 268 then 256 else vmn V i - 268))) d) := fun K => by
        simp (disch := omega) only [fXX7_pointersHold_10_150, lit, litN, nI_ltI', nI_leI', nI_eqI, nI_clampI, if_neg, nI_mul, nI_add, nI_sub, Nat.mul_zero, Nat.add_zero, Nat.sub_zero, g0, obs, R6]
      have body2 : ∀ K s, fXX7_pointersHold_10_150 nb K (nI (vmn V i - 268)) (nI (vdb V i * 1024)) (nI 1) (nI 1) s = some (nI 1, s) := fun K s => by
        simp (disch := omega) only [fXX7_pointersHold_10_150, lit, litN, nI_ltI', nI_leI', nI_eqI, nI_clampI, if_pos]
      have lp : lfix (fun k150 t => fXX7_pointersHold_10_150 nb k150 t.1 t.2.1 t.2.2.1 t.2.2.2.1 t.2.2.2.2) FU (nI (vmn V i - 268), nI (vdb V i * 1024), nI 1, nI 0, XD (XC ρ (addC C4 (fun w => vrw V i w) 1)) d) = some (nI 1, XD (XC ρ (addC (addC C4 (fun w => vrw V i w) 1) (fun w => vbl V i (268 + w)) (if 256 < vmn V i - 268 then 256 else vmn V i - 268))) d) := by
        rw [lf1]
        show fXX7_pointersHold_10_150 nb _ _ _ _ _ _ = _
        rw [body]
        refine (lf1n _ 1099511627774 _).trans ?_
        exact body2 _ _
      rw [if_pos q]
      have kle : ¬ nI 1 ≤ nI 0 := by decide +kernel
      simp (disch := omega) only [fXX7_pointersHold_10_95, fXX7_pointersHold_10_147, lit, litN, nI_add, g92, obs, nI_sub, nI_div, e1, kle, if_false, nI_mul, R5, nI10]
      exact lp
    · have e0 : (vmn V i - 268 + 256 - 1) / 256 = 0 := by omega
      have m0 : vmn V i - 268 = 0 := by omega
      rw [if_neg q, m0]
      simp (disch := omega) only [fXX7_pointersHold_10_95, fXX7_pointersHold_10_147, lit, litN, nI_add, g92, obs, nI_sub, nI_div, nI_ltI', nI_leI', nI_eqI, nI_clampI, if_pos, nI_mul]
      rw [lf1]
      simp (disch := omega) only [fXX7_pointersHold_10_150, lit, litN, nI_ltI', nI_leI', nI_eqI, nI_clampI, if_pos]
      rfl
  have m12 := mx12 (a := vmn V i) (by omega)
  have m268 := mx268 (a := vmn V i) (by omega)
  by_cases q : 12 < vmn V i
  · obtain ⟨s1, s2, s3, s4⟩ := o3 q
    have g88 := get4_X (nb := nb) (a := inoA (vP V) (vG V) i + 88) (XC ρ C3) d (by omega) (by omega)
    rw [rsg] at g88
    have R4 := row_X (nb := nb) ρ d C3 (fun w => vbl V i (12 + w)) (a := vsg V i * 1024) (n := 256) (m := vmn V i - 12) (by omega) (by omega) (by omega) (by omega) (fun w hw => by
      rw [Nat.mul_comm (vsg V i) 1024, rd_sing D s1 s2 hw (by rw [s3]; exact hpt _), s3]
      unfold ptr
      by_cases z : w < vmn V i - 12
      · rw [if_pos (by omega), if_pos z]
      · rw [if_neg (by omega), if_neg z]) (fun k hk hk' => by
      have := c3 (12 + k) (by omega)
      exact ⟨this.1, this.2.1, C3n _ this.2.1 this.2.2.2.1 (by omega) (by omega) (by omega) (by omega)⟩) (fun j k hj hk hk' e => by have := inj (12 + j) (12 + k) (by omega) (by omega) e; omega)
    have T4 := T (addC C3 (fun w => vbl V i (12 + w)) (if 256 < vmn V i - 12 then 256 else vmn V i - 12)) (fun b hb h h3 h3' h4 h5 => by
      rw [addC_n _ (fun j hj z => by
        have := c3 (12 + j) (by split at hj <;> omega)
        rw [z] at this
        split at hj <;> omega)]
      exact C3n b hb h h3 (by omega) h4 h5)
    unfold oin
    rw [hC3]
    have kle : ¬ nI (vmn V i - 12) ≤ nI 0 := by rw [nI_leI' (by omega) (by omega)]; omega
    simp only [fXX7_pointersHold_10, fXX7_pointersHold_10_0, lit, litN, nI_add, R1, R2, R3, obs, m12, m268, nI10, if_false, kle, g88, nI_mul, R4]
    exact T4
  · have m0 : vmn V i - 12 = 0 := by omega
    have T4 := T C3 (fun b hb h h3 h3' h4 h5 => C3n b hb h h3 (by omega) h4 h5)
    unfold oin
    rw [hC3, m0]
    rw [m0] at R2 R3 m12
    have e00 : addC C3 (fun w => vbl V i (12 + w)) (if 256 < 0 then 256 else 0) = C3 := rfl
    rw [e00]
    have kle : nI 0 ≤ nI 0 := by decide +kernel
    simp only [fXX7_pointersHold_10, fXX7_pointersHold_10_0, lit, litN, nI_add, R1, R2, R3, obs, m12, m268, nI10, if_false, kle, if_true]
    exact T4
