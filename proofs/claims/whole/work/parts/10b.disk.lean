theorem obs {α β : Type} (a : α) (f : α → Option β) : (some a).bind f = f a := id (Eq.refl _)
theorem n_sdm (a b : Nat) : a - a / b * b = a % b := by have := Nat.div_add_mod' a b; omega
-- loops
theorem lmea {κ α β S R : Type} (b : κ → (α → Option β) → α → Option β) (enc : S → α) (out : κ → R → Option β) (Inv : S → Prop) (Post : R → Prop) (μ : S → Nat)
    (hs : ∀ s, Inv s → (∃ s', Inv s' ∧ μ s' < μ s ∧ ∀ c k, b c k (enc s) = k (enc s')) ∨ (∃ r, Post r ∧ ∀ c k, b c k (enc s) = out c r)) :
    ∀ (n : Nat) (s : S), Inv s → μ s < n → ∃ r, Post r ∧ ∀ c, lfix (b c) n (enc s) = out c r := by
  intro n
  induction n with
  | zero => intro s _ h; omega
  | succ n ih =>
    intro s hi hm
    rcases hs s hi with ⟨s', h1, h2, h3⟩ | ⟨r, h1, h2⟩
    · obtain ⟨r, h4, h5⟩ := ih s' h1 (by omega)
      exact ⟨r, h4, fun c => by show b c (lfix (b c) n) (enc s) = _; rw [h3]; exact h5 c⟩
    · exact ⟨r, h1, fun c => h2 c _⟩
theorem lfor {κ α β S : Type} (b : κ → (α → Option β) → α → Option β) (enc : Nat → S → α) (fin : κ → S → Option β) (N : Nat) (Inv : Nat → S → Prop)
    (hs : ∀ i s, i < N → Inv i s → ∃ s', Inv (i + 1) s' ∧ ∀ c k, b c k (enc i s) = k (enc (i + 1) s'))
    (he : ∀ s, Inv N s → ∀ c k, b c k (enc N s) = fin c s) (i : Nat) (s : S) (n : Nat) (hi : i ≤ N) (h0 : Inv i s) (hn : N - i < n) : ∃ s', Inv N s' ∧ ∀ c, lfix (b c) n (enc i s) = fin c s' := by
  refine lmea b (fun q : Nat × S => enc q.1 q.2) fin (fun q => q.1 ≤ N ∧ Inv q.1 q.2) (fun s => Inv N s) (fun q => N - q.1) ?_ n (i, s) ⟨hi, h0⟩ hn
  rintro ⟨j, t⟩ ⟨h1, h2⟩
  rcases Nat.lt_or_ge j N with h | h
  · obtain ⟨s', h3, h4⟩ := hs j t h h2
    exact .inl ⟨(j + 1, s'), ⟨h, h3⟩, by show N - (j + 1) < N - j; omega, h4⟩
  · have e : j = N := Nat.le_antisymm h1 h
    subst e
    exact .inr ⟨t, h2, he t h2⟩
-- a counting loop whose steps are given
def itr {S : Type} (f : Nat → S → S) : Nat → Nat → S → S
  | 0, _, s => s
  | n + 1, i, s => itr f n (i + 1) (f i s)
theorem lstp {α β S : Type} (b : (α → Option β) → α → Option β) (enc : Nat → S → α) (fin : S → Option β) (N : Nat) (f : Nat → S → S) (Inv : Nat → S → Prop)
    (hs : ∀ i s, i < N → Inv i s → Inv (i + 1) (f i s) ∧ ∀ k, b k (enc i s) = k (enc (i + 1) (f i s)))
    (he : ∀ s, Inv N s → ∀ k, b k (enc N s) = fin s) : ∀ (m i : Nat) (s : S) (n : Nat), i + m = N → Inv i s → m < n → lfix b n (enc i s) = fin (itr f m i s) := by
  intro m
  induction m with
  | zero => intro i s n h hI hn; obtain ⟨n, rfl⟩ : ∃ k, n = k + 1 := ⟨n - 1, by omega⟩; obtain rfl : i = N := by omega
            exact he s hI _
  | succ m ih =>
    intro i s n h hI hn
    obtain ⟨n, rfl⟩ : ∃ k, n = k + 1 := ⟨n - 1, by omega⟩
    obtain ⟨h1, h2⟩ := hs i s (by omega) hI
    show b (lfix b n) (enc i s) = _
    rw [h2]
    exact ih (i + 1) (f i s) n (by omega) h1 (by omega)
-- the class's state with its disk
def XD (σ : XS) (d : Nat → Nat) : XS := (σ.1, va_up σ.2.1 0 (fun a => sb (d a)), σ.2.2)
theorem XD_s (σ : XS) (d : Nat → Nat) : (XD σ d).1 = σ.1 := rfl
theorem XD_d (σ : XS) (d : Nat → Nat) (a : Nat) : (XD σ d).2.1 0 a = sb (d a) := rfl
theorem XD_o (σ : XS) (d : Nat → Nat) {k : Nat} (h : k ≠ 0) : (XD σ d).2.1 k = σ.2.1 k := va_up_ne _ _ h
theorem XD_l (σ : XS) (d : Nat → Nat) : (XD σ d).2.2 = σ.2.2 := rfl
theorem XD_S (σ : XS) (d : Nat → Nat) (k : Nat) (v : Int32) : stS (XD σ d) k v = XD (stS σ k v) d := rfl
theorem XD_A (σ : XS) (d : Nat → Nat) {k : Nat} (i : Nat) (v : Int32) (h : k ≠ 0) : stA (XD σ d) k i v = XD (stA σ k i v) d := by
  unfold stA XD
  simp only [va_up_ne _ _ h]
  congr 2
  funext j
  unfold va_up
  by_cases h1 : j = k <;> by_cases h2 : j = 0 <;> simp_all
def wr1 (d : Nat → Nat) (a v : Nat) : Nat → Nat := fun x => if x = a then v % 256 else d x
def wr2 (d : Nat → Nat) (a v : Nat) : Nat → Nat := wr1 (wr1 d a v) (a + 1) (v / 256)
def wr4 (d : Nat → Nat) (a v : Nat) : Nat → Nat := wr1 (wr1 (wr2 d a v) (a + 2) (v / 65536)) (a + 3) (v / 16777216)
def rd2 (d : Nat → Nat) (a : Nat) : Nat := d a % 256 + 256 * (d (a + 1) % 256)
def rd4 (d : Nat → Nat) (a : Nat) : Nat := d a % 256 + 256 * (d (a + 1) % 256) + 65536 * (d (a + 2) % 256) + 16777216 * (d (a + 3) % 256)
def wrF (d : Nat → Nat) (a b v : Nat) : Nat → Nat := fun x => if a ≤ x ∧ x < b then v % 256 else d x
def wrC (d : Nat → Nat) (a b n : Nat) : Nat → Nat := fun x => if b ≤ x ∧ x < b + n then d (a + (x - b)) else d x
theorem XD_put (σ : XS) (d : Nat → Nat) (a v : Nat) : stA (XD σ d) 0 a (sb v) = XD σ (wr1 d a v) := by
  unfold stA XD
  simp only [Prod.mk.injEq, and_true, true_and]
  funext j x
  unfold va_up upd wr1
  by_cases h : j = 0
  · simp only [h, if_true]
    by_cases h2 : x = a
    · simp only [h2, if_true, sb_mod]
    · simp only [h2, if_false]
  · simp only [h, if_false]
theorem n_or {a b : Nat} : (a < 0 ∨ b ≤ a) = (b ≤ a) := propext ⟨fun h => h.elim (fun h => absurd h (Nat.not_lt_zero _)) id, .inr⟩
theorem get_X {nb a : Nat} (σ : XS) (d : Nat → Nat) (hn : nb ≤ 512) (h : a < nb * 1024) : fXX1_get_1 nb (nI a) (XD σ d) = some (nI (d a % 256), XD σ d) := by
  simp (disch := omega) only [fXX1_get_1_0, fXX1_get_1, lit, litN, nI_ltI', nI_leI', nI_eqI, nI_clampI, n_or, if_pos, if_neg, if_true, if_false, obs, XD_d, sb_and]
theorem put_X {nb a : Nat} (σ : XS) (d : Nat → Nat) (v : Nat) (hn : nb ≤ 512) (h : a < nb * 1024) : fXX1_put_1 nb (nI a) (nI v) (XD σ d) = some (XD σ (wr1 d a v)) := by
  simp (disch := omega) only [fXX1_put_1_0, fXX1_put_1, lit, litN, nI_ltI', nI_leI', nI_eqI, nI_clampI, n_or, if_pos, if_neg, if_true, if_false, obs, byt_nI, nar_sb, XD_put]
theorem nI_or8 {a b : Nat} (ha : a < 256) : nI a ||| nI (b * 2 ^ 8) = nI (a + 256 * b) := by rw [nI_orsh _ _ _ (by omega), Nat.mul_comm]
theorem nI_or16 {a b : Nat} (ha : a < 65536) : nI a ||| nI (b * 2 ^ 16) = nI (a + 65536 * b) := by rw [nI_orsh _ _ _ (by omega), Nat.mul_comm]
theorem nI_or24 {a b : Nat} (ha : a < 16777216) : nI a ||| nI (b * 2 ^ 24) = nI (a + 16777216 * b) := by rw [nI_orsh _ _ _ (by omega), Nat.mul_comm]
theorem get2_X {nb a : Nat} (σ : XS) (d : Nat → Nat) (hn : nb ≤ 512) (h : a + 1 < nb * 1024) : fXX1_get2_1 nb (nI a) (XD σ d) = some (nI (rd2 d a), XD σ d) := by
  simp (disch := omega) only [fXX1_get2_1_0, fXX1_get2_1, lit, litN, nI_add, nI_sub, nI_ltI', nI_leI', nI_eqI, nI_clampI, n_or, if_pos, if_neg, if_true, if_false, obs, XD_d, sb_and, nI_sh31, nI_shl, nI_or8, rd2]
theorem get4_X {nb a : Nat} (σ : XS) (d : Nat → Nat) (hn : nb ≤ 512) (h : a + 3 < nb * 1024) : fXX1_get4_1 nb (nI a) (XD σ d) = some (nI (rd4 d a), XD σ d) := by
  simp (disch := omega) only [fXX1_get4_1_0, fXX1_get4_1, lit, litN, nI_add, nI_sub, nI_ltI', nI_leI', nI_eqI, nI_clampI, n_or, if_pos, if_neg, if_true, if_false, obs, XD_d, sb_and, nI_sh31, nI_shl, nI_or8, nI_or16, nI_or24, rd4]
theorem put2_X {nb a : Nat} (σ : XS) (d : Nat → Nat) (v : Nat) (hn : nb ≤ 512) (h : a + 1 < nb * 1024) : fXX1_put2_1 nb (nI a) (nI v) (XD σ d) = some (XD σ (wr2 d a v)) := by
  simp (disch := omega) only [fXX1_put2_1_0, fXX1_put2_1, lit, litN, nI_add, nI_sub, nI_ltI', nI_leI', nI_eqI, nI_clampI, n_or, if_pos, if_neg, if_true, if_false, obs, nI_sh31, sb_shr, byt_nI, nar_sb, XD_put, wr2]
theorem put4_X {nb a : Nat} (σ : XS) (d : Nat → Nat) (v : Nat) (hn : nb ≤ 512) (h : a + 3 < nb * 1024) : fXX1_put4_1 nb (nI a) (nI v) (XD σ d) = some (XD σ (wr4 d a v)) := by
  simp (disch := omega) only [fXX1_put4_1_0, fXX1_put4_1, lit, litN, nI_add, nI_sub, nI_ltI', nI_leI', nI_eqI, nI_clampI, n_or, if_pos, if_neg, if_true, if_false, obs, nI_sh31, sb_shr, byt_nI, nar_sb, XD_put, wr4, wr2]
theorem wrF_self (d : Nat → Nat) (a v : Nat) : wrF d a a v = d := by
  funext x; unfold wrF; rw [if_neg (by omega)]
theorem wrF_succ (d : Nat → Nat) {a b : Nat} (h : a ≤ b) (v : Nat) : wr1 (wrF d a b v) b v = wrF d a (b + 1) v := by
  funext x; unfold wr1 wrF
  by_cases h1 : x = b
  · rw [if_pos h1, if_pos (by omega)]
  · rw [if_neg h1]
    by_cases h2 : a ≤ x ∧ x < b
    · rw [if_pos h2, if_pos (by omega)]
    · rw [if_neg h2, if_neg (by omega)]
theorem fill_X {nb a b : Nat} (σ : XS) (d : Nat → Nat) (v : Nat) (hn : nb ≤ 512) (h : a ≤ b) (hb : b ≤ nb * 1024) : fXX1_fill_1 nb (nI a) (nI b) (nI v) (XD σ d) = some (XD σ (wrF d a b v)) := by
  have h1 : ∃ d', d' = wrF d a b v ∧ ∀ c : Unit, lfix ((fun _ k10 t => fXJ2_fill___2_10 nb k10 t.1 t.2.1 t.2.2.1 t.2.2.2) c) FU (nI b, sb v, nI a, XD σ d) = some (XD σ d') := by
    refine lfor (κ := Unit) (fun _ k10 t => fXJ2_fill___2_10 nb k10 t.1 t.2.1 t.2.2.1 t.2.2.2) (fun i d' => (nI b, sb v, nI i, XD σ d')) (fun _ d' => some (XD σ d')) b (fun i d' => a ≤ i ∧ d' = wrF d a i v) ?_ ?_ a d FU h ⟨Nat.le_refl _, (wrF_self d a v).symm⟩ (by unfold FU; omega) |>.imp (fun d' h => ⟨h.1.2, h.2⟩)
    · rintro i d' hi ⟨h1, rfl⟩
      refine ⟨wrF d a (i + 1) v, ⟨by omega, rfl⟩, fun _ k => ?_⟩
      simp (disch := omega) only [fXJ2_fill___2_10, lit, litN, nI_add, nI_ltI', nI_leI', nI_eqI, nI_clampI, n_or, if_pos, if_neg, if_true, if_false, obs, nar_sb, XD_put, wrF_succ]
    · rintro d' ⟨h1, rfl⟩ _ k
      simp (disch := omega) only [fXJ2_fill___2_10, lit, litN, nI_add, nI_ltI', nI_leI', nI_eqI, nI_clampI, n_or, if_pos, if_neg, if_true, if_false, obs]
  obtain ⟨d', rfl, h2⟩ := h1
  have h3 := h2 ()
  simp (disch := omega) only [fXX1_fill_1_0, fXX1_fill_1, fXJ2_fill___2, fXJ2_fill___2_0, fXJ2_rangeCheck_0, fXJ2_rangeCheck, lit, litN, byt_nI, nI_ltI', nI_leI', nI_eqI, nI_clampI, if_pos, if_neg, if_true, if_false, obs]
  rw [h3]; rfl

theorem XD_cpy (σ : XS) (d : Nat → Nat) (a b n : Nat) : stC (XD σ d) 0 0 a b n = XD σ (wrC d a b n) := by
  unfold stC XD
  simp only [Prod.mk.injEq, and_true, true_and]
  funext j x
  unfold va_up va_cpy wrC
  by_cases h : j = 0
  · simp only [h, if_true]
    by_cases h2 : b ≤ x ∧ x < b + n
    · simp only [h2, and_self, if_true]
    · simp only [h2, if_false]
  · simp only [h, if_false]
theorem copy_X {nb a b n : Nat} (σ : XS) (d : Nat → Nat) (hn : nb ≤ 512) (ha : a + n ≤ nb * 1024) (hb : b + n ≤ nb * 1024) : fXX1_copy_1 nb (nI a) (nI b) (nI n) (XD σ d) = some (XD σ (wrC d a b n)) := by
  have hf : ∀ i, i < n → fits .byte (.int (sb (d (a + i)))) = true := fun i _ => sb_fits _
  have h0 : ¬ (a < 0 ∨ b < 0 ∨ n < 0 ∨ nb * 1024 < a + n ∨ nb * 1024 < b + n) := by omega
  simp (disch := omega) only [fXX1_copy_1_0, fXX1_copy_1, lit, litN, nI_sub, nI_ltI', nI_leI', nI_eqI, nI_clampI, if_pos, if_neg, if_true, if_false, obs, XD_d, if_neg h0, if_pos hf, XD_cpy]
