def XC (ρ : XS) (c : Nat → Nat) : XS := (ρ.1, va_up ρ.2.1 3 (fun b => nI (c b)), ρ.2.2)
set_option maxRecDepth 4096 in
theorem XC_o (ρ : XS) (c : Nat → Nat) {k : Nat} (h : k ≠ 3) : (XC ρ c).2.1 k = ρ.2.1 k := va_up_ne _ _ h
set_option maxRecDepth 4096 in
theorem XC_at (ρ : XS) (c d : Nat → Nat) (b : Nat) : (XD (XC ρ c) d).2.1 3 b = nI (c b) := rfl
set_option maxRecDepth 4096 in
theorem XC_put (ρ : XS) (c d : Nat → Nat) (b v : Nat) : stA (XD (XC ρ c) d) 3 b (nI v) = XD (XC ρ (up1 c b v)) d := by
  rw [XD_A _ _ _ _ (by omega)]
  congr 1
  unfold stA XC
  refine Prod.ext rfl (Prod.ext ?_ rfl)
  funext k x
  show va_up (va_up ρ.2.1 3 (fun b => nI (c b))) 3 (upd (fun b => nI (c b)) b (nI v)) k x = va_up ρ.2.1 3 (fun a => nI (up1 c b v a)) k x
  by_cases e : k = 3
  · subst e
    rw [va_up_self, va_up_self]
    unfold upd up1
    by_cases c2 : x = b
    · rw [if_pos c2, if_pos c2]
    · rw [if_neg c2, if_neg c2]
  · rw [va_up_ne _ _ e, va_up_ne _ _ e, va_up_ne _ _ e]
set_option maxRecDepth 4096 in
theorem nar1 : vp_nar .byte (nI 1) = nI 1 := by decide +kernel
set_option maxRecDepth 4096 in
theorem claim_X {nb : Nat} (ρ : XS) (c d : Nat → Nat) {b : Nat} (hn : nb ≤ 512) (h1 : 1 ≤ b) (h2 : b < nb) (h0 : c b = 0) : fXX7_claim_10 nb (nI b) (XD (XC ρ c) d) = some (nI 1, XD (XC ρ (up1 c b 1)) d) := by
  have e := XC_at ρ c d b
  rw [h0] at e
  simp (disch := omega) only [fXX7_claim_10, fXX7_claim_10_0, lit, litN, nI_ltI', nI_leI', nI_eqI, nI_clampI, n_or, if_neg, e, if_true, nar1, XC_put]
def addC (c p : Nat → Nat) : Nat → Nat → Nat
  | 0 => c
  | k + 1 => up1 (addC c p k) (p k) 1
set_option maxRecDepth 4096 in
theorem addC_n {c p : Nat → Nat} {b : Nat} : ∀ k, (∀ j, j < k → p j ≠ b) → addC c p k b = c b := by
  intro k
  induction k with
  | zero => intro _; rfl
  | succ k ih =>
    intro h
    show up1 (addC c p k) (p k) 1 b = c b
    unfold up1; rw [if_neg (fun q => h k (by omega) q.symm)]; exact ih (fun j hj => h j (by omega))
set_option maxRecDepth 4096 in
theorem addC_y {c p : Nat → Nat} {b : Nat} : ∀ k, (∃ j, j < k ∧ p j = b) → addC c p k b = 1 := by
  intro k
  induction k with
  | zero => rintro ⟨j, hj, _⟩; omega
  | succ k ih =>
    rintro ⟨j, hj, e⟩
    show up1 (addC c p k) (p k) 1 b = 1
    unfold up1
    by_cases q : b = p k
    · rw [if_pos q]
    · rw [if_neg q]; exact ih ⟨j, by (have : j ≠ k := fun z => q (by rw [← z]; exact e.symm)); omega, e⟩
set_option maxRecDepth 4096 in
theorem addC_1 {c p : Nat → Nat} {b : Nat} (h : c b = 1) : ∀ k, addC c p k b = 1 := by
  intro k
  induction k with
  | zero => exact h
  | succ k ih =>
    show up1 (addC c p k) (p k) 1 b = 1
    unfold up1; split
    · rfl
    · exact ih
-- a row of pointers
set_option maxRecDepth 4096 in
theorem row_X {nb : Nat} (ρ : XS) (d c p : Nat → Nat) {a n m : Nat} (hn5 : nb ≤ 512) (ha : a + 4 * n ≤ nb * 1024) (hn : n < 1000) (hm : m < 1000) (hr : ∀ k, k < n → rd4 d (a + 4 * k) = if k < m then p k else 0) (hp : ∀ k, k < n → k < m → 1 ≤ p k ∧ p k < nb ∧ c (p k) = 0) (hi : ∀ j k, j < k → k < n → k < m → p j ≠ p k) :
    fXX7_rowHolds_10 nb (nI a) (nI n) (nI m) (XD (XC ρ c) d) = some (nI 1, XD (XC ρ (addC c p (if n < m then n else m))) d) := by
  have key : ∃ c', c' = addC c p (if n < m then n else m) ∧ ∀ u : Unit, lfix ((fun _ k3 t => fXX7_rowHolds_10_3 nb k3 t.1 t.2.1 t.2.2.1 t.2.2.2.1 t.2.2.2.2) u) FU (nI a, nI n, nI m, nI 0, XD (XC ρ c) d) = some (nI 1, XD (XC ρ c') d) := by
    refine lfor (κ := Unit) (fun _ k3 t => fXX7_rowHolds_10_3 nb k3 t.1 t.2.1 t.2.2.1 t.2.2.2.1 t.2.2.2.2) (fun k (c' : Nat → Nat) => (nI a, nI n, nI m, nI k, XD (XC ρ c') d)) (fun _ c' => some (nI 1, XD (XC ρ c') d)) n (fun k c' => c' = addC c p (if k < m then k else m)) ?_ ?_ 0 c FU (Nat.zero_le _) ?_ (by unfold FU; omega)
    · rintro k c' hk rfl
      refine ⟨_, rfl, fun _ K => ?_⟩
      have g := get4_X (nb := nb) (a := a + 4 * k) (XC ρ (addC c p (if k < m then k else m))) d hn5 (by omega)
      rw [hr k hk] at g
      by_cases ck : k < m
      · rw [if_pos ck] at g ⊢
        obtain ⟨q1, q2, q3⟩ := hp k hk ck
        have cl := claim_X ρ (addC c p k) d hn5 q1 q2 (by rw [addC_n k (fun j hj => hi j k hj hk ck)]; exact q3)
        rw [show (if k + 1 < m then k + 1 else m) = k + 1 by split <;> omega]
        rw [if_pos ck] at g
        simp (disch := omega) only [fXX7_rowHolds_10_3, fXX7_rowHolds_10_49, lit, litN, nI_ltI', nI_leI', nI_eqI, nI_clampI, if_neg, nI_mul, nI_add, g, obs, cl]
        rfl
      · rw [if_neg ck] at g ⊢
        rw [show (if k + 1 < m then k + 1 else m) = m by rw [if_neg (by omega)]]
        rw [if_neg ck] at g
        simp (disch := omega) only [fXX7_rowHolds_10_3, fXX7_rowHolds_10_49, lit, litN, nI_ltI', nI_leI', nI_eqI, nI_clampI, if_neg, if_pos, nI_mul, nI_add, g, obs, if_true]
    · rintro c' rfl _ K
      simp (disch := omega) only [fXX7_rowHolds_10_3, lit, litN, nI_ltI', nI_leI', nI_eqI, nI_clampI, if_pos]
    · rw [show (if 0 < m then 0 else m) = 0 by split <;> omega]; rfl
  obtain ⟨c', rfl, h⟩ := key
  have h' := h ()
  simp only [fXX7_rowHolds_10, fXX7_rowHolds_10_0, lit, litN]
  exact h'
set_option maxRecDepth 4096 in
theorem isZ1_X {nb : Nat} (σ : XS) (d : Nat → Nat) {a b x : Nat} (hn5 : nb ≤ 512) (hb : b ≤ nb * 1024) (hx : a ≤ x) (hx2 : x < 2000000) (hz : ∀ x, a ≤ x → x < b → d x % 256 = 0) : lfix (fun k25 t => fXX1_isZero_1_25 nb k25 t.1 t.2.1 t.2.2) FU (nI b, nI x, XD σ d) = some (nI 1, XD σ d) := by
  have key : ∃ _ : Unit, True ∧ ∀ u : Unit, lfix ((fun _ k25 t => fXX1_isZero_1_25 nb k25 t.1 t.2.1 t.2.2) u) FU (nI b, nI x, XD σ d) = some (nI 1, XD σ d) := by
    refine lmea (κ := Unit) (fun _ k25 t => fXX1_isZero_1_25 nb k25 t.1 t.2.1 t.2.2) (fun x : Nat => (nI b, nI x, XD σ d)) (fun _ (_ : Unit) => some (nI 1, XD σ d)) (fun x => a ≤ x ∧ x < 2000000) (fun _ => True) (fun x => b - x) ?_ FU x ⟨hx, hx2⟩ (by show b - x < FU; unfold FU; omega)
    rintro y ⟨y1, y2⟩
    by_cases c : b ≤ y
    · right
      refine ⟨(), trivial, fun _ K => ?_⟩
      simp (disch := omega) only [fXX1_isZero_1_25, lit, litN, nI_ltI', nI_leI', nI_eqI, nI_clampI, if_pos]
    · left
      refine ⟨y + 1, ⟨by omega, by omega⟩, by show b - (y + 1) < b - y; omega, fun _ K => ?_⟩
      have g := get_X (nb := nb) (a := y) σ d hn5 (by omega)
      rw [hz y y1 (by omega)] at g
      simp (disch := omega) only [fXX1_isZero_1_25, lit, litN, nI_ltI', nI_leI', nI_eqI, nI_clampI, if_neg, g, obs, if_true, nI_add]
  obtain ⟨_, _, h⟩ := key
  exact h ()
set_option maxRecDepth 4096 in
theorem rd4_z {d : Nat → Nat} {a : Nat} (h : ∀ o, o < 4 → d (a + o) % 256 = 0) : rd4 d a = 0 := by
  have h0 := h 0 (by omega); have h1 := h 1 (by omega); have h2 := h 2 (by omega); have h3 := h 3 (by omega)
  rw [Nat.add_zero] at h0
  unfold rd4; rw [h0, h1, h2, h3]
set_option maxRecDepth 4096 in
theorem isZero_X {nb : Nat} (σ : XS) (d : Nat → Nat) {a b : Nat} (hn5 : nb ≤ 512) (hb : b ≤ nb * 1024) (h4 : 4 ≤ b) (ha : a ≤ b) (hz : ∀ x, a ≤ x → x < b → d x % 256 = 0) : fXX1_isZero_1 nb (nI a) (nI b) (XD σ d) = some (nI 1, XD σ d) := by
  have key : ∃ _ : Unit, True ∧ ∀ u : Unit, lfix ((fun _ k2 t => fXX1_isZero_1_2 nb k2 t.1 t.2.1 t.2.2) u) FU (nI b, nI a, XD σ d) = some (nI 1, XD σ d) := by
    refine lmea (κ := Unit) (fun _ k2 t => fXX1_isZero_1_2 nb k2 t.1 t.2.1 t.2.2) (fun x : Nat => (nI b, nI x, XD σ d)) (fun _ (_ : Unit) => some (nI 1, XD σ d)) (fun x => a ≤ x ∧ x < 1000000) (fun _ => True) (fun x => b - x) ?_ FU a ⟨Nat.le_refl _, by omega⟩ (by show b - a < FU; unfold FU; omega)
    rintro y ⟨y1, y2⟩
    by_cases c : b - 4 < y
    · right
      refine ⟨(), trivial, fun _ K => ?_⟩
      have z := isZ1_X σ d (x := y) hn5 hb y1 (by omega) hz
      simp (disch := omega) only [fXX1_isZero_1_2, lit, litN, nI_sub, nI_ltI', nI_leI', nI_eqI, nI_clampI, if_pos]
      exact z
    · left
      refine ⟨y + 4, ⟨by omega, by omega⟩, by show b - (y + 4) < b - y; omega, fun _ K => ?_⟩
      have g := get4_X (nb := nb) (a := y) σ d hn5 (by omega)
      rw [rd4_z (fun o ho => hz (y + o) (by omega) (by omega))] at g
      simp (disch := omega) only [fXX1_isZero_1_2, lit, litN, nI_sub, nI_ltI', nI_leI', nI_eqI, nI_clampI, if_neg, g, obs, if_true, nI_add]
  obtain ⟨_, _, h⟩ := key
  have h' := h ()
  simp only [fXX1_isZero_1, fXX1_isZero_1_0, lit, litN]
  exact h'
-- the fixed blocks
def cF (V : VV) (x r : Nat) (b : Nat) : Nat := if vot V b = 2 ∧ (b < 1 + x * vP V + r) then 1 else 0
set_option maxRecDepth 4096 in
theorem fill3_X {nb : Nat} (ρ : XS) (c d : Nat → Nat) (hn : nb ≤ 512) (hc : ∀ b, ρ.2.1 3 b = nI (c b)) : fXJ2_fill_13 nb (nI 0) (XD ρ d) = some (XD (XC ρ (fun b => if b < nb then 0 else c b)) d) := by
  have e0 : XD ρ d = XD (XC ρ c) d := by
    congr 1
    unfold XC
    refine Prod.ext rfl (Prod.ext ?_ rfl)
    funext k
    show _ = va_up ρ.2.1 3 (fun b => nI (c b)) k
    by_cases e : k = 3
    · subst e; rw [va_up_self]; funext b; exact hc b
    · rw [va_up_ne _ _ e]
  have key : ∃ c', c' = (fun b => if b < nb then 0 else c b) ∧ ∀ u : Unit, lfix ((fun _ k5 t => fXJ2_fill_13_5 nb k5 t.1 t.2.1 t.2.2.1 t.2.2.2) u) FU (nI 0, nI 0, nI nb, XD (XC ρ c) d) = some (XD (XC ρ c') d) := by
    refine lfor (κ := Unit) (fun _ k5 t => fXJ2_fill_13_5 nb k5 t.1 t.2.1 t.2.2.1 t.2.2.2) (fun k (c' : Nat → Nat) => (nI 0, nI k, nI nb, XD (XC ρ c') d)) (fun _ c' => some (XD (XC ρ c') d)) nb (fun k c' => c' = fun b => if b < k then 0 else c b) ?_ ?_ 0 c FU (Nat.zero_le _) ?_ (by unfold FU; omega)
    · rintro k c' hk rfl
      refine ⟨_, rfl, fun _ K => ?_⟩
      have n0 : vp_nar .byte (nI 0) = nI 0 := by decide +kernel
      have e : up1 (fun b => if b < k then 0 else c b) k 0 = fun b => if b < k + 1 then 0 else c b := by
        funext b; unfold up1
        by_cases q : b = k
        · rw [if_pos q, if_pos (by omega)]
        · rw [if_neg q]
          show (if b < k then 0 else c b) = _
          by_cases q2 : b < k
          · rw [if_pos q2, if_pos (by omega)]
          · rw [if_neg q2, if_neg (by omega)]
      simp (disch := omega) only [fXJ2_fill_13_5, lit, litN, nI_ltI', nI_leI', nI_eqI, nI_clampI, n_or, if_neg, n0, XC_put, e, nI_add]
    · rintro c' rfl _ K
      simp (disch := omega) only [fXJ2_fill_13_5, lit, litN, nI_ltI', nI_leI', nI_eqI, nI_clampI, if_pos]
    · funext b; rw [if_neg (by omega)]
  obtain ⟨c', rfl, h⟩ := key
  have h' := h ()
  rw [e0]
  simp only [fXJ2_fill_13, fXJ2_fill_13_0, lit, litN]
  exact h'
set_option maxRecDepth 4096 in
theorem claimFixed_X {nb : Nat} {V : VV} (B : Bas nb V) {ρ : XS} (S : Sc V ρ) (c d : Nat → Nat) (hc : ∀ b, ρ.2.1 3 b = nI (c b)) :
    ∃ c', (∀ b, b < nb → c' b = if vot V b = 2 then 1 else 0) ∧ fXX7_claimFixed_10 nb (XD ρ d) = some (XD (XC ρ c') d) := by
  have hg := G_lt B
  have f3 := fill3_X (nb := nb) ρ c d (by omega) hc
  have SC : ∀ c, Sc V (XC ρ c) := fun _ => S
  have gr := fun c => groups_X B (SC c) d
  have fx := fun c => fixedB_X B (SC c) d
  have fb := fun c x => firstB_X B (SC c) d x
  have key : ∃ c', (∀ b, b < nb → c' b = if vot V b = 2 ∧ b < 1 + vQ V * vP V then 1 else 0) ∧ ∀ u : Unit, lfix ((fun _ k10 t => fXX7_claimFixed_10_10 nb k10 t.1 t.2) u) FU (nI 0, XD (XC ρ (fun b => if b < nb then 0 else c b)) d) = some (XD (XC ρ c') d) := by
    refine lfor (κ := Unit) (fun _ k10 t => fXX7_claimFixed_10_10 nb k10 t.1 t.2) (fun x (c' : Nat → Nat) => (nI x, XD (XC ρ c') d)) (fun _ c' => some (XD (XC ρ c') d)) (vQ V) (fun x c' => ∀ b, b < nb → c' b = if vot V b = 2 ∧ b < 1 + x * vP V then 1 else 0) ?_ ?_ 0 _ FU (Nat.zero_le _) ?_ (by unfold FU; omega)
    · rintro x c1 hx h1
      have hgr := B.1.grp hx
      have inner : ∃ c2, (∀ b, b < nb → c2 b = if vot V b = 2 ∧ b < 1 + x * vP V + (4 + vG V / 8) then 1 else 0) ∧ ∀ K : (Int32 × XS) → Option XS, lfix ((fun k10 k23 t => fXX7_claimFixed_10_23 nb k10 k23 t.1 t.2.1 t.2.2) K) FU (nI x, nI 0, XD (XC ρ c1) d) = K (nI (x + 1), XD (XC ρ c2) d) := by
        refine lfor (fun k10 k23 t => fXX7_claimFixed_10_23 nb k10 k23 t.1 t.2.1 t.2.2) (fun r (c' : Nat → Nat) => (nI x, nI r, XD (XC ρ c') d)) (fun K c' => K (nI (x + 1), XD (XC ρ c') d)) (4 + vG V / 8) (fun r c' => ∀ b, b < nb → c' b = if vot V b = 2 ∧ b < 1 + x * vP V + r then 1 else 0) ?_ ?_ 0 c1 FU (Nat.zero_le _) h1 (by unfold FU; omega)
        · rintro r c' hr h'
          have ht : vot V (1 + x * vP V + r) = 2 := by
            have hb := B.1.blk (x := x) (r := r) (by omega)
            have e : 1 + x * vP V + r - 1 = x * vP V + r := by omega
            exact (B.2.1 (1 + x * vP V + r) (by omega) (by omega)).mp (by rw [e, hb.2]; exact hr)
          have cl := claim_X (nb := nb) ρ c' d (by omega) (b := 1 + x * vP V + r) (by omega) (by omega) (by rw [h' _ (by omega), if_neg (by omega)])
          refine ⟨up1 c' (1 + x * vP V + r) 1, fun b hb => ?_, fun K K2 => ?_⟩
          · unfold up1
            by_cases q : b = 1 + x * vP V + r
            · rw [if_pos q, if_pos ⟨by rw [q]; exact ht, by omega⟩]
            · rw [if_neg q, h' b hb]
              by_cases q2 : vot V b = 2 ∧ b < 1 + x * vP V + r
              · rw [if_pos q2, if_pos ⟨q2.1, by omega⟩]
              · rw [if_neg q2, if_neg (fun z => q2 ⟨z.1, by omega⟩)]
          · simp (disch := omega) only [fXX7_claimFixed_10_23, fx, fb, obs, lit, litN, nI_ltI', nI_leI', nI_eqI, nI_clampI, if_neg, nI_add, cl]
        · rintro c' h' K K2
          simp (disch := omega) only [fXX7_claimFixed_10_23, fx, obs, lit, litN, nI_ltI', nI_leI', nI_eqI, nI_clampI, if_pos, nI_add]
      obtain ⟨c2, q1, q2⟩ := inner
      refine ⟨c2, fun b hb => ?_, fun _ K => ?_⟩
      · rw [q1 b hb]
        by_cases q : vot V b = 2 ∧ b < 1 + x * vP V + (4 + vG V / 8)
        · rw [if_pos q, if_pos ⟨q.1, by rw [Nat.succ_mul]; omega⟩]
        · rw [if_neg q, if_neg]
          intro z
          refine q ⟨z.1, ?_⟩
          have hb1 : 1 ≤ b := by
            rcases Nat.eq_zero_or_pos b with w | w
            · have := z.1; rw [w, B.2.2.1] at this; omega
            · exact w
          have hr := (B.2.1 b hb1 hb).mpr z.1
          obtain ⟨d1, d2, d3⟩ := B.1.div hb1 hb
          have hz := z.2
          rw [Nat.succ_mul] at hz
          rcases Nat.lt_or_ge b (1 + x * vP V) with w | w
          · omega
          · have : (b - 1) / vP V = x := by
              have e : b - 1 = x * vP V + (b - 1 - x * vP V) := by omega
              rw [e]; exact (B.1.blk (by omega)).1
            rw [this] at d2; omega
      · have q3 := q2 K
        simp (disch := omega) only [fXX7_claimFixed_10_10, gr, obs, lit, litN, nI_ltI', nI_leI', nI_eqI, nI_clampI, if_neg]
        exact q3
    · rintro c' h' _ K
      simp (disch := omega) only [fXX7_claimFixed_10_10, gr, obs, lit, litN, nI_ltI', nI_leI', nI_eqI, nI_clampI, if_pos]
    · intro b hb
      show (if b < nb then 0 else c b) = _
      rw [if_pos hb]
      have : ¬ (vot V b = 2 ∧ b < 1 + 0 * vP V) := fun q => by
        have : b = 0 := by omega
        rw [this, B.2.2.1] at q; omega
      rw [if_neg this]
  obtain ⟨c', h1, h2⟩ := key
  refine ⟨c', fun b hb => ?_, ?_⟩
  · rw [h1 b hb]
    have hl := B.1.2.2.2.2.2.2.1
    by_cases q : vot V b = 2
    · rw [if_pos ⟨q, by omega⟩, if_pos q]
    · rw [if_neg (fun z => q z.1), if_neg q]
  · have h3 := h2 ()
    simp only [fXX7_claimFixed_10, fXX7_claimFixed_10_0, lit, litN, f3, obs]
    exact h3
