-- the reference: its data are array 0, so XD serves
set_option maxRecDepth 4096 in
theorem one_M (nb : Nat) (τ : XS) (f : Nat → Nat) {a : Nat} (h : a < 524288) : fMX12_one_0 nb (nI a) (XD τ f) = some (nI (f a % 256), XD τ f) := by
  simp (disch := omega) only [fMX12_one_0_0, fMX12_one_0, lit, litN, nI_ltI', nI_leI', nI_eqI, nI_clampI, n_or, if_neg, XD_d, sb_and]
set_option maxRecDepth 4096 in
theorem two_M (nb : Nat) (τ : XS) (f : Nat → Nat) {a : Nat} (h : a + 1 < 524288) : fMX12_two_0 nb (nI a) (XD τ f) = some (nI (rd2 f a), XD τ f) := by
  have h1 := one_M nb τ f (a := a) (by omega)
  have h2 := one_M nb τ f (a := a + 1) h
  simp (disch := omega) only [fMX12_two_0_0, fMX12_two_0, lit, litN, h1, obs, nI_add, h2, nI_mul, rd2]
set_option maxRecDepth 4096 in
theorem four_M (nb : Nat) (τ : XS) (f : Nat → Nat) {a : Nat} (h : a + 3 < 524288) : fMX12_four_0 nb (nI a) (XD τ f) = some (nI (rd4 f a), XD τ f) := by
  have h1 := two_M nb τ f (a := a) (by omega)
  have h2 := two_M nb τ f (a := a + 2) (by omega)
  have e : rd2 f a + 65536 * rd2 f (a + 2) = rd4 f a := by unfold rd2 rd4; rw [show a + 2 + 1 = a + 3 from rfl]; omega
  simp (disch := omega) only [fMX12_four_0_0, fMX12_four_0, lit, litN, h1, obs, nI_add, h2, nI_mul, e]
set_option maxRecDepth 4096 in
theorem wrN_succ (f : Nat → Nat) (a v : Nat) {n : Nat} (hn : n < 4) : wr1 (wrN f a n v) (a + n) (v / 2 ^ (8 * n)) = wrN f a (n + 1) v := by
  funext x
  unfold wr1 wrN byt
  by_cases c : x = a + n
  · rw [if_pos c, if_pos (by omega), c, show a + n - a = n by omega]
    rcases lt4 hn with rfl | rfl | rfl | rfl <;> rfl
  · rw [if_neg c]
    by_cases c2 : a ≤ x ∧ x < a + n
    · rw [if_pos c2, if_pos (by omega)]
    · rw [if_neg c2, if_neg (by omega)]
set_option maxRecDepth 4096 in
theorem sb_shr8 (v : Nat) {n : Nat} (hn : n < 4) : ((nI v) >>> (nI (8 * n) &&& nI 31)).toInt8.toInt32 = sb (v / 2 ^ (8 * n)) := by
  rw [nI_sh31 (by omega), sb_shr v (8 * n) (by omega)]
set_option maxRecDepth 4096 in
theorem set_M (nb : Nat) (τ : XS) (f : Nat → Nat) {a n : Nat} (v : Nat) (h : a + n ≤ 524288) (hn : n ≤ 4) : fMX12_set_0 nb (nI a) (nI n) (nI v) (XD τ f) = some (XD τ (wrN f a n v)) := by
  have key : ∃ g, g = wrN f a n v ∧ ∀ u : Unit, lfix ((fun _ k3 t => fMX12_set_0_3 nb k3 t.1 t.2.1 t.2.2.1 t.2.2.2.1 t.2.2.2.2) u) FU (nI a, nI n, nI v, nI 0, XD τ f) = some (XD τ g) := by
    refine lfor (κ := Unit) (fun _ k3 t => fMX12_set_0_3 nb k3 t.1 t.2.1 t.2.2.1 t.2.2.2.1 t.2.2.2.2) (fun k (g : Nat → Nat) => (nI a, nI n, nI v, nI k, XD τ g)) (fun _ g => some (XD τ g)) n (fun k g => g = wrN f a k v) ?_ ?_ 0 f FU (Nat.zero_le _) ?_ (by unfold FU; omega)
    · rintro k g hk rfl
      refine ⟨_, rfl, fun _ K => ?_⟩
      simp (disch := omega) only [fMX12_set_0_3, lit, litN, nI_ltI', nI_leI', nI_eqI, nI_clampI, n_or, if_neg, nI_add, nI_mul, sb_shr8, nar_sb, XD_put, wrN_succ]
    · rintro g rfl _ K
      simp (disch := omega) only [fMX12_set_0_3, nI_ltI', nI_leI', nI_eqI, nI_clampI, if_pos]
    · funext x; unfold wrN; rw [if_neg (by omega)]
  obtain ⟨g, rfl, h2⟩ := key
  have h3 := h2 ()
  simp only [fMX12_set_0, fMX12_set_0_0, lit, litN]
  exact h3
set_option maxRecDepth 4096 in
theorem parts_M (nb : Nat) (τ : XS) {x y : Nat} (hy : 1 ≤ y) (hx : x + y < 2147483648) : fMX12_parts nb (nI x) (nI y) τ = some (nI ((x + y - 1) / y), τ) := by
  simp (disch := omega) only [fMX12_parts_0, fMX12_parts, lit, litN, nI_ltI', nI_leI', nI_eqI, nI_clampI, if_neg, nI_add, nI_sub, nI_div]
set_option maxRecDepth 4096 in
theorem nar0 : vp_nar .byte (nI 0) = sb 0 := nar_nI 0
set_option maxRecDepth 4096 in
theorem zero_M {nb : Nat} (τ : XS) (f : Nat → Nat) {b : Nat} (hb : b < 512) : ∃ g, g = wrF f (1024 * b) (1024 * b + 1024) 0 ∧ ∀ u : Unit, lfix ((fun _ k33 t => fMX12_take_0_33 nb k33 t.1 t.2.1 t.2.2) u) FU (nI b, nI 0, XD τ f) = some (nI b, XD τ g) := by
  refine lfor (κ := Unit) (fun _ k33 t => fMX12_take_0_33 nb k33 t.1 t.2.1 t.2.2) (fun k (g : Nat → Nat) => (nI b, nI k, XD τ g)) (fun _ g => some (nI b, XD τ g)) 1024 (fun k g => g = wrF f (1024 * b) (1024 * b + k) 0) ?_ ?_ 0 f FU (Nat.zero_le _) (wrF_self f _ 0).symm (by unfold FU; omega)
  · rintro k g hk rfl
    refine ⟨_, rfl, fun _ K => ?_⟩
    have e := wrF_succ f (a := 1024 * b) (b := 1024 * b + k) (by omega) 0
    simp (disch := omega) only [fMX12_take_0_33, lit, litN, nI_ltI', nI_leI', nI_eqI, nI_clampI, n_or, if_neg, nI_add, nI_mul, nar0, XD_put, e, Nat.add_assoc]
  · rintro g rfl _ K
    simp (disch := omega) only [fMX12_take_0_33, lit, litN, nI_ltI', nI_leI', nI_eqI, nI_clampI, if_pos]
def tkM (τ : XS) (b : Nat) : XS := stA (stA τ 4 b (nI 1)) 5 b (nI 0)
set_option maxRecDepth 4096 in
theorem take_M {nb : Nat} {V : VV} (hn : nb ≤ 512) (τ : XS) (f : Nat → Nat) (hu : ∀ b, 1 ≤ b → b < 512 → τ.2.1 4 b = if vot V b = 0 then nI 0 else nI 1) {b : Nat} (hb : b < nb) (hl : lowB V b) :
    fMX12_take_0 nb (XD τ f) = some (nI b, XD (tkM τ b) (wrF f (1024 * b) (1024 * b + 1024) 0)) := by
  have key : ∃ r : Unit, True ∧ ∀ u : Unit, lfix ((fun _ k2 t => fMX12_take_0_2 nb k2 t.1 t.2) u) FU (nI 1, XD τ f) = some (nI b, XD (tkM τ b) (wrF f (1024 * b) (1024 * b + 1024) 0)) := by
    refine lmea (κ := Unit) (fun _ k2 t => fMX12_take_0_2 nb k2 t.1 t.2) (fun k : Nat => (nI k, XD τ f)) (fun _ (_ : Unit) => some (nI b, XD (tkM τ b) (wrF f (1024 * b) (1024 * b + 1024) 0))) (fun k => 1 ≤ k ∧ k ≤ b) (fun _ => True) (fun k => b - k) ?_ FU 1 ⟨Nat.le_refl _, hl.1⟩ (by show b - 1 < FU; unfold FU; omega)
    rintro k ⟨h1, h2⟩
    have e := hu k h1 (by omega)
    have e4 : (XD τ f).2.1 4 k = τ.2.1 4 k := by rw [XD_o _ _ (by omega)]
    by_cases c : k = b
    · right
      refine ⟨(), trivial, fun _ K => ?_⟩
      subst c
      rw [if_pos hl.2.1] at e
      obtain ⟨g, rfl, z⟩ := zero_M (nb := nb) (stA (stA τ 4 k (nI 1)) 5 k (nI 0)) f (b := k) (by omega)
      have z' := z ()
      have eb : vp_nar .boolean (nI 1) = nI 1 := by decide +kernel
      simp (disch := omega) only [fMX12_take_0_2, lit, litN, nI_ltI', nI_leI', nI_eqI, nI_clampI, n_or, if_neg, e4, e, if_true, eb, XD_A]
      exact z'
    · left
      refine ⟨k + 1, ⟨by omega, by omega⟩, by show b - (k + 1) < b - k; omega, fun _ K => ?_⟩
      rw [if_neg (hl.2.2 k h1 (by omega))] at e
      simp (disch := omega) only [fMX12_take_0_2, lit, litN, nI_ltI', nI_leI', nI_eqI, nI_clampI, n_or, if_neg, e4, e, nI_add]
  obtain ⟨_, _, h⟩ := key
  have h' := h ()
  simp only [fMX12_take_0, fMX12_take_0_0, lit, litN]
  exact h'
set_option maxRecDepth 4096 in
theorem all_M (nb : Nat) (τ : XS) {n : Nat} (h : n < 1000000) : fMX12_all nb (nI n) τ = some (nI (alln n), τ) := by
  unfold alln
  by_cases c1 : 12 < n
  · by_cases c2 : 268 < n
    · rw [if_pos c1, if_pos c2]
      have p := parts_M nb τ (x := n - 268) (y := 256) (by omega) (by omega)
      simp (disch := omega) only [fMX12_all_12, fMX12_all_0, fMX12_all, lit, litN, nI_ltI', nI_leI', nI_eqI, nI_clampI, if_neg, nI_add, nI_sub, p, obs]
      congr 3
    · rw [if_pos c1, if_neg c2]
      simp (disch := omega) only [fMX12_all_12, fMX12_all_0, fMX12_all, lit, litN, nI_ltI', nI_leI', nI_eqI, nI_clampI, if_neg, if_pos, nI_add]
  · rw [if_neg c1, if_neg (by omega)]
    simp (disch := omega) only [fMX12_all_12, fMX12_all_0, fMX12_all, lit, litN, nI_ltI', nI_leI', nI_eqI, nI_clampI, if_pos, nI_add]
-- an entry
set_option maxRecDepth 4096 in
theorem entry_M (nb : Nat) {τ : XS} (f : Nat → Nat) {w : Nat → Nat} {a i ln nl kd : Nat} (hl : τ.1 12 = nI nl) (hw : ∀ k, k < nl → τ.2.1 17 k = nI (w k % 256)) (hnl : nl ≤ 255) (ha : a + spc nl ≤ 524288) : fMX12_entry_0 nb (nI a) (nI i) (nI ln) (nI kd) (XD τ f) = some (XD τ (entW f a i ln nl kd w)) := by
  have hs := spc_ge nl
  have hl' : ∀ g, (XD τ g).1 12 = nI nl := fun g => hl
  have p := parts_M nb (XD τ f) (x := nl) (y := 4) (by omega) (by omega)
  have e8 : 8 + (nl + 4 - 1) / 4 * 4 = spc nl := by unfold spc; omega
  have names : ∀ e : Nat → Nat, ∃ e' : Nat → Nat, e' = nmW e a w nl ∧ ∀ u : Unit, lfix ((fun _ k84 t => fMX12_entry_0_84 nb k84 t.1 t.2.1 t.2.2) u) FU (nI a, nI 0, XD τ e) = some (XD τ e') := fun e => by
    refine lfor (κ := Unit) (fun _ k84 t => fMX12_entry_0_84 nb k84 t.1 t.2.1 t.2.2) (fun k (e' : Nat → Nat) => (nI a, nI k, XD τ e')) (fun _ e' => some (XD τ e')) nl (fun k e' => e' = nmW e a w k) ?_ ?_ 0 e FU (Nat.zero_le _) rfl (by unfold FU; omega)
    · rintro k e' hk rfl
      refine ⟨_, rfl, fun _ K => ?_⟩
      have v : (XD τ (nmW e a w k)).2.1 17 k = nI (w k % 256) := by rw [XD_o _ _ (by omega)]; exact hw k hk
      simp (disch := omega) only [fMX12_entry_0_84, hl', lit, litN, nI_ltI', nI_leI', nI_eqI, nI_clampI, n_or, if_neg, nI_add, v, byt_nI, nar_sb, XD_put, nmW]
    · rintro e' rfl _ K
      simp (disch := omega) only [fMX12_entry_0_84, hl', nI_ltI', nI_leI', nI_eqI, nI_clampI, if_pos]
  have s1 := set_M nb τ (wrF f a (a + spc nl) 0) (a := a) (n := 4) i (by omega) (by omega)
  have s2 := set_M nb τ (wrN (wrF f a (a + spc nl) 0) a 4 i) (a := a + 4) (n := 2) ln (by omega) (by omega)
  have s3 := set_M nb τ (wrN (wrN (wrF f a (a + spc nl) 0) a 4 i) (a + 4) 2 ln) (a := a + 6) (n := 1) nl (by omega) (by omega)
  have s4 := set_M nb τ (wrN (wrN (wrN (wrF f a (a + spc nl) 0) a 4 i) (a + 4) 2 ln) (a + 6) 1 nl) (a := a + 7) (n := 1) kd (by omega) (by omega)
  obtain ⟨e', he, hN⟩ := names (wrN (wrN (wrN (wrN (wrF f a (a + spc nl) 0) a 4 i) (a + 4) 2 ln) (a + 6) 1 nl) (a + 7) 1 kd)
  have hN' := hN ()
  rw [← wr1_N, ← wr1_N] at he
  rw [ent_eq] at he
  rw [he] at hN'
  have key : ∃ g : Nat → Nat, g = entW f a i ln nl kd w ∧ ∀ u : Unit, lfix ((fun _ k18 t => fMX12_entry_0_18 nb k18 t.1 t.2.1 t.2.2.1 t.2.2.2.1 t.2.2.2.2.1 t.2.2.2.2.2.1 t.2.2.2.2.2.2) u) FU (nI a, nI i, nI ln, nI kd, nI (spc nl), nI 0, XD τ f) = some (XD τ g) := by
    refine lmea (κ := Unit) (fun _ k18 t => fMX12_entry_0_18 nb k18 t.1 t.2.1 t.2.2.1 t.2.2.2.1 t.2.2.2.2.1 t.2.2.2.2.2.1 t.2.2.2.2.2.2) (fun q : Nat × (Nat → Nat) => (nI a, nI i, nI ln, nI kd, nI (spc nl), nI q.1, XD τ q.2)) (fun _ g => some (XD τ g)) (fun q => q.1 ≤ spc nl ∧ q.2 = wrF f a (a + q.1) 0) _ (fun q => spc nl - q.1) ?_ FU (0, f) ⟨Nat.zero_le _, (wrF_self f a 0).symm⟩ (by show spc nl - 0 < FU; unfold FU; omega)
    rintro ⟨k, g⟩ ⟨h1, h2⟩
    have h1 : k ≤ spc nl := h1
    have h2 : g = wrF f a (a + k) 0 := h2
    subst h2
    by_cases c : k = spc nl
    · right
      refine ⟨_, rfl, fun _ K => ?_⟩
      subst c
      simp (disch := omega) only [fMX12_entry_0_18, lit, litN, nI_ltI', nI_leI', nI_eqI, nI_clampI, if_pos, s1, obs, nI_add, s2, hl', s3, s4]
      exact hN'
    · left
      have e := wrF_succ f (a := a) (b := a + k) (by omega) 0
      refine ⟨(k + 1, wrF f a (a + (k + 1)) 0), ⟨by show k + 1 ≤ spc nl; omega, rfl⟩, by show spc nl - (k + 1) < spc nl - k; omega, fun _ K => ?_⟩
      simp (disch := omega) only [fMX12_entry_0_18, lit, litN, nI_ltI', nI_leI', nI_eqI, nI_clampI, n_or, if_neg, nI_add, nar0, XD_put, e, Nat.add_assoc]
  obtain ⟨g, rfl, h2⟩ := key
  have h3 := h2 ()
  simp only [fMX12_entry_0, fMX12_entry_0_0, hl', p, obs, lit, litN, nI_mul, nI_add, e8]
  exact h3
