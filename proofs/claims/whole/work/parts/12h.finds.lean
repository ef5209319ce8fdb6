def fnd (τ : XS) (fo be se : Int32) : XS := (fun k => if k = 10 then fo else if k = 11 then be else if k = 13 then se else τ.1 k, τ.2)
set_option maxRecDepth 4096 in
theorem fnd_10 (τ : XS) (fo be se x : Int32) : stS (fnd τ fo be se) 10 x = fnd τ x be se := by
  unfold stS fnd upd; congr 1; funext k; by_cases h : k = 10 <;> simp [h]
set_option maxRecDepth 4096 in
theorem fnd_11 (τ : XS) (fo be se x : Int32) : stS (fnd τ fo be se) 11 x = fnd τ fo x se := by
  unfold stS fnd upd; congr 1; funext k; by_cases h : k = 11 <;> simp [h]
set_option maxRecDepth 4096 in
theorem fnd_13 (τ : XS) (fo be se x : Int32) : stS (fnd τ fo be se) 13 x = fnd τ fo be x := by
  unfold stS fnd upd; congr 1; funext k; by_cases h : k = 13 <;> simp [h]
set_option maxRecDepth 4096 in
theorem fnd_e (τ : XS) : fnd τ (τ.1 10) (τ.1 11) (τ.1 13) = τ := by
  unfold fnd; show (_, τ.2) = (τ.1, τ.2); congr 1; funext k
  by_cases h : k = 10
  · rw [if_pos h, h]
  · rw [if_neg h]; by_cases h2 : k = 11
    · rw [if_pos h2, h2]
    · rw [if_neg h2]; by_cases h3 : k = 13
      · rw [if_pos h3, h3]
      · rw [if_neg h3]
set_option maxRecDepth 4096 in
theorem fnd_f (τ : XS) (a b c x y z : Int32) : fnd (fnd τ a b c) x y z = fnd τ x y z := by
  unfold fnd; congr 1; funext k
  by_cases h : k = 10 <;> by_cases h2 : k = 11 <;> by_cases h3 : k = 13 <;> simp [h, h2, h3]
set_option maxRecDepth 4096 in
theorem fnd_k (τ : XS) (a b c : Int32) {k : Nat} (h1 : k ≠ 10) (h2 : k ≠ 11) (h3 : k ≠ 13) : (fnd τ a b c).1 k = τ.1 k := by
  show (if k = 10 then a else if k = 11 then b else if k = 13 then c else τ.1 k) = _
  rw [if_neg h1, if_neg h2, if_neg h3]
set_option maxRecDepth 4096 in
theorem RM_fnd {nb : Nat} {V : VV} {τ : XS} {f : Nat → Nat} {a b c : Int32} (h : RM nb V τ f) : RM nb V (fnd τ a b c) f := RM_tau h (fun k hk => fnd_k τ a b c (by omega) (by omega) (by omega)) (fun _ _ _ => rfl) rfl
set_option maxRecDepth 4096 in
theorem RMd_d {nb : Nat} {V : VV} {τ : XS} {f : Nat → Nat} (R : RM nb V τ f) {a : Nat} (h : Adr nb V a) (o : Nat) (ho : a % 1024 + o < 1024) : f (a + o) = vdat V (a + o) := by
  have e : a + o = 1024 * (a / 1024) + (a % 1024 + o) := by omega
  rw [e]; exact R.2.2.2.2.2.2.2.2 _ _ h.1 ho h.2.1
set_option maxRecDepth 4096 in
theorem RMd_4 {nb : Nat} {V : VV} {τ : XS} {f : Nat → Nat} (R : RM nb V τ f) {a : Nat} (h : Adr nb V a) : rd4 f a = rd4 (vdat V) a := by
  have h3 := h.2.2.2
  have e := RMd_d R h 0 (by omega)
  unfold rd4; rw [RMd_d R h 1 (by omega), RMd_d R h 2 (by omega), RMd_d R h 3 (by omega)]
  rw [Nat.add_zero] at e; rw [e]
set_option maxRecDepth 4096 in
theorem RMd_2 {nb : Nat} {V : VV} {τ : XS} {f : Nat → Nat} (R : RM nb V τ f) {a : Nat} (h : Adr nb V a) : rd2 f (a + 4) = rd2 (vdat V) (a + 4) := by
  have h3 := h.2.2.2
  unfold rd2; rw [RMd_d R h 4 (by omega), Nat.add_assoc, RMd_d R h 5 (by omega)]
-- a step of the search over an entry that is none or a dot
set_option maxRecDepth 4096 in
theorem Adr_lt {nb : Nat} {V : VV} (hn : nb ≤ 512) {a : Nat} (h : Adr nb V a) : a + 12 ≤ 524288 := by
  have := h.1; have := h.2.2.2; omega
def lastOr (pr : Int32) (l : List Nat) : Int32 := match l.getLast? with | none => pr | some z => nI z
set_option maxRecDepth 4096 in
theorem lastOr_nil (pr : Int32) : lastOr pr [] = pr := rfl
set_option maxRecDepth 4096 in
theorem lastOr_cons (pr : Int32) (x : Nat) (l : List Nat) : lastOr pr (x :: l) = lastOr (nI x) l := by
  unfold lastOr
  cases l with
  | nil => rfl
  | cons y l => rw [List.getLast?_cons_cons]; simp [List.getLast?_cons]
set_option maxRecDepth 4096 in
theorem find1_M {nb : Nat} {V : VV} {τ : XS} {f : Nat → Nat} (hn : nb ≤ 512) (R : RM nb V τ f) {i k b x : Nat} (hb : b < nb) (ht : vot V b = 3) (hk : k < 4294967296) (hx : x < 1000) :
    ∀ (l : List Nat) (a c : Nat) (fo pr : Int32) (n : Nat), Seg (vdat V) l a (1024 * b + 1024) → 1024 * b ≤ a → a % 4 = 0 → (x ≠ 0 ∨ 1024 * b + 24 ≤ a) → l.length < n → c ≤ k → c + l.length < 100000000 →
    (∃ y l1 l2, (l.filter (nz (vdat V)))[k - c]? = some y ∧ l = l1 ++ y :: l2 ∧ ∀ k15, lfix (fun k38 t => fMX12_finds_0_38 nb k15 k38 t.1 t.2.1 t.2.2.1 t.2.2.2.1 t.2.2.2.2.1 t.2.2.2.2.2) n (nI i, nI k, nI b, nI x, nI a, XD (fnd τ fo pr (nI c)) f) = some (nI 1, XD (fnd τ (nI y) (lastOr pr l1) (nI k)) f)) ∨
    ((l.filter (nz (vdat V)))[k - c]? = none ∧ ∃ fo' pr', ∀ k15, lfix (fun k38 t => fMX12_finds_0_38 nb k15 k38 t.1 t.2.1 t.2.2.1 t.2.2.2.1 t.2.2.2.2.1 t.2.2.2.2.2) n (nI i, nI k, nI b, nI x, nI a, XD (fnd τ fo pr (nI c)) f) = k15 (nI i, nI k, τ.2.1 5 b, nI (x + 1), XD (fnd τ fo' pr' (nI (c + (l.filter (nz (vdat V))).length))) f)) := by
  intro l
  induction l with
  | nil =>
    intro a c fo pr n h1 h2 h3 h4 h5 h6 h7
    obtain ⟨n, rfl⟩ : ∃ k, n = k + 1 := ⟨n - 1, by omega⟩
    have h1 : a = 1024 * b + 1024 := h1
    right
    refine ⟨rfl, fo, pr, fun k15 => ?_⟩
    show fMX12_finds_0_38 nb k15 _ (nI i) (nI k) (nI b) (nI x) (nI a) (XD (fnd τ fo pr (nI c)) f) = _
    have x5 : (XD (fnd τ fo pr (nI c)) f).2.1 5 b = τ.2.1 5 b := XD_k _ _ _ _ (by omega)
    simp (disch := omega) only [fMX12_finds_0_38, lit, litN, nI_mul, nI_add, nI_ltI', nI_leI', nI_eqI, nI_clampI, n_or, if_pos, if_neg, x5, List.filter_nil, List.length_nil, Nat.add_zero]
  | cons y l ih =>
    intro a c fo pr n h1 h2 h3 h4 h5 h6 h7
    obtain ⟨n, rfl⟩ : ∃ k, n = k + 1 := ⟨n - 1, by omega⟩
    have hA := Seg_adr _ _ _ h1 y (List.mem_cons_self ..)
    obtain ⟨g1, g2, g3, g4, g5⟩ := h1
    subst g1
    rw [List.length_cons] at h5 h7
    have hadr : Adr nb V y := by
      have e : y / 1024 = b := by omega
      exact ⟨by omega, by rw [e]; exact ht, h3, by omega⟩
    have hya := Adr_lt hn hadr
    have r2 := RMd_2 R hadr
    have r4 := RMd_4 R hadr
    have hlt := rd4_lt (vdat V) y
    have hlt2 : rd2 (vdat V) (y + 4) ≤ 1024 := by omega
    have two : ∀ ρ, fMX12_two_0 nb (nI (y + 4)) (XD ρ f) = some (nI (rd2 (vdat V) (y + 4)), XD ρ f) := fun ρ => by rw [two_M nb ρ f (by omega), r2]
    have four : ∀ ρ, fMX12_four_0 nb (nI y) (XD ρ f) = some (nI (rd4 (vdat V) y), XD ρ f) := fun ρ => by rw [four_M nb ρ f (by omega), r4]
    have hd : ∀ k15 k38 ρ, fMX12_finds_0_38 nb k15 k38 (nI i) (nI k) (nI b) (nI x) (nI y) ρ = fMX12_finds_0_75 nb k15 k38 (nI i) (nI k) (nI b) (nI x) (nI y) (nI 0) ρ := fun k15 k38 ρ => by
      by_cases c0 : x = 0
      · subst c0
        simp (disch := omega) only [fMX12_finds_0_38, fMX12_finds_0_74, lit, litN, nI_mul, nI_add, nI_ltI', nI_leI', nI_eqI, nI_clampI, if_neg, if_pos, if_true]
      · simp (disch := omega) only [fMX12_finds_0_38, fMX12_finds_0_74, lit, litN, nI_mul, nI_add, nI_ltI', nI_leI', nI_eqI, nI_clampI, if_neg]
    by_cases c0 : rd4 (vdat V) y = 0
    · have gen : ∀ k15 K, fMX12_finds_0_38 nb k15 K (nI i) (nI k) (nI b) (nI x) (nI y) (XD (fnd τ fo pr (nI c)) f) = K (nI i, nI k, nI b, nI x, nI (y + rd2 (vdat V) (y + 4)), XD (fnd τ fo (nI y) (nI c)) f) := fun k15 K => by
        rw [hd]
        simp (disch := omega) only [fMX12_finds_0_75, fMX12_finds_0_117, lit, litN, if_true, four, obs, c0, XD_S, fnd_11, nI_add, two]
      rw [List.filter_cons_of_neg (nz_f.mpr c0)]
      rcases ih (y + rd2 (vdat V) (y + 4)) c fo (nI y) n g5 (by omega) (by omega) (by omega) (by omega) h6 (by omega) with ⟨z, l1, l2, q1, q2, q3⟩ | ⟨q1, fo', pr', q2⟩
      · left
        refine ⟨z, y :: l1, l2, q1, by rw [q2]; rfl, fun k15 => ?_⟩
        show fMX12_finds_0_38 nb k15 _ (nI i) (nI k) (nI b) (nI x) (nI y) (XD (fnd τ fo pr (nI c)) f) = _
        rw [gen, lastOr_cons]; exact q3 k15
      · right
        refine ⟨q1, fo', pr', fun k15 => ?_⟩
        show fMX12_finds_0_38 nb k15 _ (nI i) (nI k) (nI b) (nI x) (nI y) (XD (fnd τ fo pr (nI c)) f) = _
        rw [gen]; exact q2 k15
    · rw [List.filter_cons_of_pos (nz_t.mpr c0)]
      have x13 : (XD (fnd τ fo pr (nI c)) f).1 13 = nI c := rfl
      by_cases ck : c = k
      · left
        subst ck
        refine ⟨y, [], l, by rw [Nat.sub_self]; rfl, rfl, fun k15 => ?_⟩
        show fMX12_finds_0_38 nb k15 _ (nI i) (nI c) (nI b) (nI x) (nI y) (XD (fnd τ fo pr (nI c)) f) = _
        rw [hd, lastOr_nil]
        simp (disch := omega) only [fMX12_finds_0_75, fMX12_finds_0_117, lit, litN, if_true, four, obs, nI_z, c0, if_false, x13, XD_S, fnd_10]
      · have gen : ∀ k15 K, fMX12_finds_0_38 nb k15 K (nI i) (nI k) (nI b) (nI x) (nI y) (XD (fnd τ fo pr (nI c)) f) = K (nI i, nI k, nI b, nI x, nI (y + rd2 (vdat V) (y + 4)), XD (fnd τ (nI y) (nI y) (nI (c + 1))) f) := fun k15 K => by
          rw [hd]
          simp (disch := omega) only [fMX12_finds_0_75, fMX12_finds_0_117, lit, litN, if_true, four, obs, nI_z, c0, if_false, x13, nI_ne, ck, XD_S, fnd_10, fnd_13, fnd_11, nI_add, two]
        obtain ⟨j, hj⟩ : ∃ j, k - c = j + 1 := ⟨k - c - 1, by omega⟩
        rw [hj, List.getElem?_cons_succ, show j = k - (c + 1) by omega]
        rcases ih (y + rd2 (vdat V) (y + 4)) (c + 1) (nI y) (nI y) n g5 (by omega) (by omega) (by omega) (by omega) (by omega) (by omega) with ⟨z, l1, l2, q1, q2, q3⟩ | ⟨q1, fo', pr', q2⟩
        · left
          refine ⟨z, y :: l1, l2, q1, by rw [q2]; rfl, fun k15 => ?_⟩
          show fMX12_finds_0_38 nb k15 _ (nI i) (nI k) (nI b) (nI x) (nI y) (XD (fnd τ fo pr (nI c)) f) = _
          rw [gen, lastOr_cons]; exact q3 k15
        · right
          refine ⟨q1, fo', pr', fun k15 => ?_⟩
          show fMX12_finds_0_38 nb k15 _ (nI i) (nI k) (nI b) (nI x) (nI y) (XD (fnd τ fo pr (nI c)) f) = _
          rw [gen, q2 k15, List.length_cons, show c + 1 + (l.filter (nz (vdat V))).length = c + ((l.filter (nz (vdat V))).length + 1) by omega]
