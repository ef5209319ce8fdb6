set_option maxRecDepth 4096 in
theorem Seg_app {f : Nat → Nat} : ∀ (l1 l2 : List Nat) (a e : Nat), Seg f (l1 ++ l2) a e ↔ ∃ m, Seg f l1 a m ∧ Seg f l2 m e := by
  intro l1
  induction l1 with
  | nil => intro l2 a e; exact ⟨fun h => ⟨a, rfl, h⟩, fun ⟨m, h1, h2⟩ => by have h1 : a = m := h1; rw [h1]; exact h2⟩
  | cons x l1 ih =>
    intro l2 a e
    show (x = a ∧ 12 ≤ rd2 f (a + 4) ∧ rd2 f (a + 4) % 4 = 0 ∧ a + rd2 f (a + 4) ≤ e ∧ Seg f (l1 ++ l2) (a + rd2 f (a + 4)) e) ↔ _
    constructor
    · rintro ⟨h1, h2, h3, h4, h5⟩
      obtain ⟨m, g1, g2⟩ := (ih l2 _ e).mp h5
      have := Seg_le _ _ _ g1
      exact ⟨m, ⟨h1, h2, h3, this, g1⟩, g2⟩
    · rintro ⟨m, ⟨h1, h2, h3, h4, h5⟩, g2⟩
      have := Seg_le _ _ _ g2
      exact ⟨h1, h2, h3, by omega, (ih l2 _ e).mpr ⟨m, h5, g2⟩⟩
set_option maxRecDepth 4096 in
theorem beOK_blk {f : Nat → Nat} {l l1 l2 : List Nat} {b y : Nat} (h : Seg f l (1024 * b) (1024 * b + 1024)) (e : l = l1 ++ y :: l2) :
    (y % 1024 = 0 ∧ lastOr (-nI 1) l1 = -nI 1) ∨ (y % 1024 ≠ 0 ∧ ∃ l1' z, l1 = l1' ++ [z] ∧ lastOr (-nI 1) l1 = nI z) := by
  subst e
  obtain ⟨m, h1, h2⟩ := (Seg_app l1 (y :: l2) _ _).mp h
  obtain ⟨h3, h4, h5, h6, h7⟩ := h2
  rcases List.eq_nil_or_concat l1 with c | ⟨l1', z, c⟩
  · left; subst c
    have h1 : 1024 * b = m := h1
    exact ⟨by omega, rfl⟩
  · right
    rw [List.concat_eq_append] at c
    subst c
    obtain ⟨m', g1, g2⟩ := (Seg_app l1' [z] _ _).mp h1
    have := Seg_le _ _ _ g1
    obtain ⟨g3, g4, g5, g6, g7⟩ := g2
    have g7 : m' + rd2 f (m' + 4) = m := g7
    refine ⟨by omega, l1', z, rfl, ?_⟩
    unfold lastOr; rw [List.getLast?_append]; rfl
def BeOK (L : List Nat) (y : Nat) (be : Int32) : Prop := (y % 1024 = 0 ∧ be = -nI 1) ∨ (y % 1024 ≠ 0 ∧ ∃ l1 z l2, L = l1 ++ z :: y :: l2 ∧ be = nI z)
set_option maxRecDepth 4096 in
theorem beOK_of {f : Nat → Nat} {l l1 l2 : List Nat} {b y : Nat} (h : Seg f l (1024 * b) (1024 * b + 1024)) (e : l = l1 ++ y :: l2) (p s : List Nat) : BeOK (p ++ (l ++ s)) y (lastOr (-nI 1) l1) := by
  rcases beOK_blk h e with ⟨h1, h2⟩ | ⟨h1, l1', z, h2, h3⟩
  · exact .inl ⟨h1, h2⟩
  · refine .inr ⟨h1, p ++ l1', z, l2 ++ s, ?_, h3⟩
    rw [e, h2]; simp
set_option maxRecDepth 4096 in
theorem find2_M {nb : Nat} {V : VV} (A : Stc nb V) {τ : XS} {f : Nat → Nat} (R : RM nb V τ f) {i k : Nat} (hi : i < 2100) (hl : live V i) (H : DS nb V i) (hk : k < 4294967296) (p : List Nat) :
    ∀ (m x c : Nat) (fo pr bx : Int32) (n : Nat), x + m = vmn V i → 1 ≤ x → c ≤ k → c + (flt (ves V i) x m).length < 100000000 → m < n → (m ≠ 0 → bx = nI (vbl V i x)) →
    (∃ y be, ((flt (ves V i) x m).filter (nz (vdat V)))[k - c]? = some y ∧ BeOK (p ++ flt (ves V i) x m) y be ∧ lfix (fun k15 t => fMX12_finds_0_15 nb k15 t.1 t.2.1 t.2.2.1 t.2.2.2.1 t.2.2.2.2) n (nI i, nI k, bx, nI x, XD (fnd τ fo pr (nI c)) f) = some (nI 1, XD (fnd τ (nI y) be (nI k)) f)) ∨
    (((flt (ves V i) x m).filter (nz (vdat V)))[k - c]? = none ∧ ∃ fo' be', lfix (fun k15 t => fMX12_finds_0_15 nb k15 t.1 t.2.1 t.2.2.1 t.2.2.2.1 t.2.2.2.2) n (nI i, nI k, bx, nI x, XD (fnd τ fo pr (nI c)) f) = some (nI 0, XD (fnd τ fo' be' (nI (c + ((flt (ves V i) x m).filter (nz (vdat V))).length))) f)) := by
  have hg := G_lt A.1
  have hmn := mn_lt A.1 A.2.2 hl
  have x9 : ∀ ρ : XS, ρ.2 = τ.2 → (XD ρ f).2.1 9 i = nI (vmn V i) := fun ρ e => by rw [XD_k _ _ _ _ (by omega), e]; exact (R.2.2.1 i hi).2.2.2.1
  intro m
  induction m generalizing p with
  | zero =>
    intro x c fo pr bx n h1 h2 h3 h4 h5 h6
    obtain ⟨n, rfl⟩ : ∃ k, n = k + 1 := ⟨n - 1, by omega⟩
    right
    refine ⟨rfl, fo, pr, ?_⟩
    show fMX12_finds_0_15 nb _ (nI i) (nI k) bx (nI x) (XD (fnd τ fo pr (nI c)) f) = _
    simp (disch := omega) only [fMX12_finds_0_15, lit, litN, nI_ltI', nI_leI', nI_eqI, nI_clampI, n_or, if_neg, x9 (fnd τ fo pr (nI c)) rfl, if_pos]
    rfl
  | succ m ih =>
    intro x c fo pr bx n h1 h2 h3 h4 h5 h6
    obtain ⟨n, rfl⟩ : ∃ k, n = k + 1 := ⟨n - 1, by omega⟩
    have hbx := h6 (by omega)
    subst hbx
    have hxm : x < vmn V i := by omega
    obtain ⟨o0, o1, o2, o3, o4⟩ := A.2.2.1 i x hl hxm
    have hS := H.2.2 x hxm
    rw [flt, List.length_append] at h4
    have gen : ∀ K, fMX12_finds_0_15 nb K (nI i) (nI k) (nI (vbl V i x)) (nI x) (XD (fnd τ fo pr (nI c)) f) = lfix (fun k38 t => fMX12_finds_0_38 nb K k38 t.1 t.2.1 t.2.2.1 t.2.2.2.1 t.2.2.2.2.1 t.2.2.2.2.2) FU (nI i, nI k, nI (vbl V i x), nI x, nI (1024 * vbl V i x), XD (fnd τ fo (-nI 1) (nI c)) f) := fun K => by
      simp (disch := omega) only [fMX12_finds_0_15, lit, litN, nI_ltI', nI_leI', nI_eqI, nI_clampI, n_or, if_neg, x9 (fnd τ fo pr (nI c)) rfl, nI_mul, XD_S, fnd_11]
    have f1 := find1_M (by omega) R (i := i) (x := x) o1 o2 hk (by omega) (ves V i x) (1024 * vbl V i x) c fo (-nI 1) FU hS (Nat.le_refl _) (by omega) (.inl (by omega)) (by unfold FU; omega) h3 (by omega)
    rw [flt, List.filter_append]
    rcases f1 with ⟨y, l1, l2, q1, q2, q3⟩ | ⟨q1, fo', pr', q2⟩
    · left
      have hlt := get_lt q1
      refine ⟨y, lastOr (-nI 1) l1, by rw [List.getElem?_append_left hlt]; exact q1, ?_, ?_⟩
      · exact beOK_of hS q2 p (flt (ves V i) (x + 1) m)
      · show fMX12_finds_0_15 nb _ (nI i) (nI k) (nI (vbl V i x)) (nI x) (XD (fnd τ fo pr (nI c)) f) = _
        rw [gen]; exact q3 _
    · have hge : ((ves V i x).filter (nz (vdat V))).length ≤ k - c := List.getElem?_eq_none_iff.mp q1
      have hle := List.length_filter_le (nz (vdat V)) (ves V i x)
      have hnx : m ≠ 0 → τ.2.1 5 (vbl V i x) = nI (vbl V i (x + 1)) := fun hm => by
        rw [R.2.2.2.2.2.2.1 i x hi hl hxm, if_pos (by omega)]
      rw [List.getElem?_append_right hge, List.length_append]
      have := ih (p ++ ves V i x) (x + 1) (c + ((ves V i x).filter (nz (vdat V))).length) fo' pr' (τ.2.1 5 (vbl V i x)) n (by omega) (by omega) (by omega) (by omega) (by omega) hnx
      rw [show k - c - ((ves V i x).filter (nz (vdat V))).length = k - (c + ((ves V i x).filter (nz (vdat V))).length) by omega]
      rcases this with ⟨y, be, z1, z2, z3⟩ | ⟨z1, fo2, be2, z2⟩
      · left
        refine ⟨y, be, z1, by rw [← List.append_assoc]; exact z2, ?_⟩
        show fMX12_finds_0_15 nb _ (nI i) (nI k) (nI (vbl V i x)) (nI x) (XD (fnd τ fo pr (nI c)) f) = _
        rw [gen, q2]; exact z3
      · right
        refine ⟨z1, fo2, be2, ?_⟩
        show fMX12_finds_0_15 nb _ (nI i) (nI k) (nI (vbl V i x)) (nI x) (XD (fnd τ fo pr (nI c)) f) = _
        rw [gen, q2, ← Nat.add_assoc]; exact z2
def DS2 (nb : Nat) (V : VV) (i : Nat) : Prop := DS nb V i ∧ (fl V i).length ≤ 2578 ∧ ∃ r, ves V i 0 = (1024 * vbl V i 0) :: (1024 * vbl V i 0 + 12) :: r
set_option maxRecDepth 4096 in
theorem lf1n {α β : Type} (b : (α → Option β) → α → Option β) (n : Nat) (t : α) : lfix b (n + 1) t = b (lfix b n) t := rfl
set_option maxRecDepth 4096 in
theorem lf1 {α β : Type} (b : (α → Option β) → α → Option β) (t : α) : lfix b FU t = b (lfix b 1099511627775) t := lf1n b 1099511627775 t
set_option maxRecDepth 4096 in
theorem finds_M {nb : Nat} {V : VV} (A : Stc nb V) {τ : XS} {f : Nat → Nat} (R : RM nb V τ f) {i k : Nat} (hi : i < 2100) (hl : live V i) (H : DS2 nb V i) (hk : k < 4294967296) :
    (∃ y be, (itm (vdat V) (fl V i))[k]? = some y ∧ BeOK (fl V i) y be ∧ fMX12_finds_0 nb (nI i) (nI k) (XD τ f) = some (nI 1, XD (fnd τ (nI y) be (nI k)) f)) ∨
    ((itm (vdat V) (fl V i))[k]? = none ∧ ∃ fo be, fMX12_finds_0 nb (nI i) (nI k) (XD τ f) = some (nI 0, XD (fnd τ fo be (nI (itm (vdat V) (fl V i)).length)) f)) := by
  obtain ⟨H1, hlen, r, hr⟩ := H
  have hg := G_lt A.1
  have hmn := mn_lt A.1 A.2.2 hl
  have h1 := H1.1
  obtain ⟨M, hM⟩ : ∃ M, vmn V i = M + 1 := ⟨vmn V i - 1, by omega⟩
  have hflt : fl V i = ves V i 0 ++ flt (ves V i) 1 M := by unfold fl; rw [hM]; rfl
  have hitm : itm (vdat V) (fl V i) = r.filter (nz (vdat V)) ++ (flt (ves V i) 1 M).filter (nz (vdat V)) := by
    unfold itm; rw [hflt, hr]; simp [List.filter_append]
  have hlen2 := hlen
  rw [hflt, List.length_append, hr, List.length_cons, List.length_cons] at hlen2
  obtain ⟨o0, o1, o2, o3, o4⟩ := A.2.2.1 i 0 hl (by omega)
  have hS := H1.2.2 0 (by omega)
  have hS' := hS
  rw [hr] at hS'
  obtain ⟨-, g2, g3, g4, g5⟩ := hS'
  obtain ⟨e2, g2', g3', g4', g5'⟩ := g5
  have e12 : rd2 (vdat V) (1024 * vbl V i 0 + 4) = 12 := by omega
  rw [e12] at g2' g3' g4' g5'
  generalize hb : vbl V i 0 = b at *
  have a0 : Adr nb V (1024 * b) := ⟨by omega, by rw [show 1024 * b / 1024 = b by omega]; exact o2, by omega, by omega⟩
  have a1 : Adr nb V (1024 * b + 12) := ⟨by omega, by rw [show (1024 * b + 12) / 1024 = b by omega]; exact o2, by omega, by omega⟩
  have two0 : ∀ ρ, fMX12_two_0 nb (nI (1024 * b + 4)) (XD ρ f) = some (nI 12, XD ρ f) := fun ρ => by rw [two_M nb ρ f (by omega), RMd_2 R a0, e12]
  have two1 : ∀ ρ, fMX12_two_0 nb (nI (1024 * b + 12 + 4)) (XD ρ f) = some (nI (rd2 (vdat V) (1024 * b + 12 + 4)), XD ρ f) := fun ρ => by rw [two_M nb ρ f (by omega), RMd_2 R a1]
  have x9 : ∀ ρ : XS, ρ.2 = τ.2 → (XD ρ f).2.1 9 i = nI (vmn V i) := fun ρ e => by rw [XD_k _ _ _ _ (by omega), e]; exact (R.2.2.1 i hi).2.2.2.1
  have x10 : ∀ ρ : XS, ρ.2 = τ.2 → (XD ρ f).2.1 10 i = nI b := fun ρ e => by
    rw [XD_k _ _ _ _ (by omega), e, (R.2.2.1 i hi).2.2.2.2.2.2.1]; unfold fst0; rw [if_neg (by omega), hb]
  have s1 : ∀ k15 K, fMX12_finds_0_38 nb k15 K (nI i) (nI k) (nI b) (nI 0) (nI (1024 * b)) (XD (fnd τ (τ.1 10) (-nI 1) (nI 0)) f) = K (nI i, nI k, nI b, nI 0, nI (1024 * b + 12), XD (fnd τ (τ.1 10) (nI (1024 * b)) (nI 0)) f) := fun k15 K => by
    simp (disch := omega) only [fMX12_finds_0_38, fMX12_finds_0_75, fMX12_finds_0_117, lit, litN, nI_mul, nI_add, nI_ltI', nI_leI', nI_eqI, nI_clampI, if_neg, if_true, XD_S, fnd_11, two0, obs]
  have s2 : ∀ k15 K, fMX12_finds_0_38 nb k15 K (nI i) (nI k) (nI b) (nI 0) (nI (1024 * b + 12)) (XD (fnd τ (τ.1 10) (nI (1024 * b)) (nI 0)) f) = K (nI i, nI k, nI b, nI 0, nI (1024 * b + 12 + rd2 (vdat V) (1024 * b + 12 + 4)), XD (fnd τ (τ.1 10) (nI (1024 * b + 12)) (nI 0)) f) := fun k15 K => by
    simp (disch := omega) only [fMX12_finds_0_38, fMX12_finds_0_75, fMX12_finds_0_117, lit, litN, nI_mul, nI_add, nI_ltI', nI_leI', nI_eqI, nI_clampI, if_neg, if_true, XD_S, fnd_11, two1, obs]
  have f1 := find1_M (by omega) R (i := i) (x := 0) o1 o2 hk (by omega) r (1024 * b + 12 + rd2 (vdat V) (1024 * b + 12 + 4)) 0 (τ.1 10) (nI (1024 * b + 12)) 1099511627774 g5' (by omega) (by omega) (.inr (by omega)) (by omega) (Nat.zero_le _) (by omega)
  have gen : fMX12_finds_0 nb (nI i) (nI k) (XD τ f) = lfix (fun k15 t => fMX12_finds_0_15 nb k15 t.1 t.2.1 t.2.2.1 t.2.2.2.1 t.2.2.2.2) FU (nI i, nI k, nI b, nI 0, XD (fnd τ (τ.1 10) (τ.1 11) (nI 0)) f) := by
    have e : stS τ 13 (nI 0) = fnd τ (τ.1 10) (τ.1 11) (nI 0) := by
      have := fnd_13 τ (τ.1 10) (τ.1 11) (τ.1 13) (nI 0); rw [fnd_e] at this; exact this
    simp (disch := omega) only [fMX12_finds_0, fMX12_finds_0_0, lit, litN, nI_ltI', nI_leI', nI_eqI, nI_clampI, n_or, if_neg, XD_S, e, x10 (fnd τ (τ.1 10) (τ.1 11) (nI 0)) rfl]
  have gen2 : ∀ K, fMX12_finds_0_15 nb K (nI i) (nI k) (nI b) (nI 0) (XD (fnd τ (τ.1 10) (τ.1 11) (nI 0)) f) = lfix (fun k38 t => fMX12_finds_0_38 nb K k38 t.1 t.2.1 t.2.2.1 t.2.2.2.1 t.2.2.2.2.1 t.2.2.2.2.2) 1099511627774 (nI i, nI k, nI b, nI 0, nI (1024 * b + 12 + rd2 (vdat V) (1024 * b + 12 + 4)), XD (fnd τ (τ.1 10) (nI (1024 * b + 12)) (nI 0)) f) := fun K => by
    have e0 : fMX12_finds_0_15 nb K (nI i) (nI k) (nI b) (nI 0) (XD (fnd τ (τ.1 10) (τ.1 11) (nI 0)) f) = lfix (fun k38 t => fMX12_finds_0_38 nb K k38 t.1 t.2.1 t.2.2.1 t.2.2.2.1 t.2.2.2.2.1 t.2.2.2.2.2) FU (nI i, nI k, nI b, nI 0, nI (1024 * b), XD (fnd τ (τ.1 10) (-nI 1) (nI 0)) f) := by
      simp (disch := omega) only [fMX12_finds_0_15, lit, litN, nI_ltI', nI_leI', nI_eqI, nI_clampI, n_or, if_neg, x9 (fnd τ (τ.1 10) (τ.1 11) (nI 0)) rfl, nI_mul, XD_S, fnd_11]
    rw [e0, lf2, s1, s2]
  rw [gen, lf1, gen2, hitm]
  rcases f1 with ⟨y, l1, l2, q1, q2, q3⟩ | ⟨q1, fo', pr', q2⟩
  · left
    rw [Nat.sub_zero] at q1
    have hlt := get_lt q1
    refine ⟨y, lastOr (nI (1024 * b + 12)) l1, by rw [List.getElem?_append_left hlt]; exact q1, ?_, q3 _⟩
    have := beOK_of hS (show ves V i 0 = (1024 * b :: (1024 * b + 12) :: l1) ++ y :: l2 by rw [hr, q2]; rfl) [] (flt (ves V i) 1 M)
    rw [lastOr_cons, lastOr_cons, List.nil_append, ← hflt] at this
    exact this
  · simp only [Nat.zero_add] at q2
    rw [Nat.sub_zero] at q1
    have hge : (r.filter (nz (vdat V))).length ≤ k := List.getElem?_eq_none_iff.mp q1
    have hle := List.length_filter_le (nz (vdat V)) r
    have hnx : M ≠ 0 → τ.2.1 5 b = nI (vbl V i 1) := fun hm => by
      rw [← hb, R.2.2.2.2.2.2.1 i 0 hi hl (by omega), if_pos (by omega)]
    rw [List.getElem?_append_right hge, List.length_append, q2]
    have := find2_M A R hi hl H1 hk (ves V i 0) M 1 ((r.filter (nz (vdat V))).length) fo' pr' (τ.2.1 5 b) 1099511627775 (by omega) (by omega) (by omega) (by omega) (by omega) hnx
    rcases this with ⟨y, be, z1, z2, z3⟩ | ⟨z1, fo2, be2, z2⟩
    · left; rw [← hflt] at z2; exact ⟨y, be, z1, z2, z3⟩
    · right; exact ⟨z1, fo2, be2, z2⟩
set_option maxRecDepth 4096 in
theorem count_M {nb : Nat} {V : VV} (A : Stc nb V) {τ : XS} {f : Nat → Nat} (R : RM nb V τ f) {i : Nat} (hi : i < 2100) (hl : live V i) (H : DS2 nb V i) :
    ∃ fo be se, fMX12_count_0 nb (nI i) (XD τ f) = some (nI (itm (vdat V) (fl V i)).length, XD (fnd τ fo be se) f) := by
  have hm1 : -nI 1 = nI 4294967295 := by decide +kernel
  have hle : (itm (vdat V) (fl V i)).length ≤ 2578 := by
    unfold itm
    have h1 := List.length_filter_le (nz (vdat V)) ((fl V i).drop 2)
    have h2 := H.2.1
    rw [List.length_drop] at h1; omega
  rcases finds_M A R hi hl H (k := 4294967295) (by omega) with ⟨y, be, q1, _⟩ | ⟨q1, fo, be, q2⟩
  · have := get_lt q1; omega
  · refine ⟨fo, be, nI (itm (vdat V) (fl V i)).length, ?_⟩
    have x13 : (XD (fnd τ fo be (nI (itm (vdat V) (fl V i)).length)) f).1 13 = nI (itm (vdat V) (fl V i)).length := rfl
    simp only [fMX12_count_0, fMX12_count_0_0, lit, litN, hm1, q2, obs, if_true, x13]
