def TP (w : Nat → Nat) (ρ : XS) : Prop := ∀ k, k < 4096 → ρ.2.1 6 k = sb (w k)
set_option maxRecDepth 4096 in
theorem TP_keep {w : Nat → Nat} {σ ρ : XS} (h : keepX σ ρ) (T : TP w σ) : TP w ρ := fun k hk => by rw [h.2.1 6 (by omega)]; exact T k hk
set_option maxRecDepth 4096 in
theorem valueAt_X {w : Nat → Nat} {ρ : XS} (nb : Nat) (d : Nat → Nat) (T : TP w ρ) {k : Nat} (hk : k < 4096) : fXX8_valueAt_16 nb (nI k) (XD ρ d) = some (nI (w k % 256), XD ρ d) := by
  have e : (XD ρ d).2.1 6 k = sb (w k) := by rw [XD_o _ _ (by omega)]; exact T k hk
  simp (disch := omega) only [fXX8_valueAt_16_0, fXX8_valueAt_16, lit, litN, nI_ltI', nI_leI', nI_eqI, nI_clampI, n_or, if_neg, e, sb_and]
def nmOK (w : Nat → Nat) (n : Nat) : Prop := 1 ≤ n ∧ n ≤ 255 ∧ (∀ k, k < n → w k % 256 ≠ 0 ∧ w k % 256 ≠ 47) ∧ ¬ (w 0 % 256 = 46 ∧ (n = 1 ∨ n = 2 ∧ w 1 % 256 = 46))
set_option maxRecDepth 4096 in
theorem isName_X {w : Nat → Nat} {ρ : XS} (nb : Nat) (d : Nat → Nat) (T : TP w ρ) {n : Nat} (hn : n ≤ 4096) : (nmOK w n ∧ fXX8_isName_16 nb (nI n) (XD ρ d) = some (nI 1, XD ρ d)) ∨ (¬ nmOK w n ∧ fXX8_isName_16 nb (nI n) (XD ρ d) = some (nI 0, XD ρ d)) := by
  by_cases c1 : n < 1
  · right; refine ⟨fun h => by have := h.1; omega, ?_⟩
    simp (disch := omega) only [fXX8_isName_16, fXX8_isName_16_0, lit, litN, nI_ltI', nI_leI', nI_eqI, nI_clampI, if_pos]
  by_cases c2 : 255 < n
  · right; refine ⟨fun h => by have := h.2.1; omega, ?_⟩
    simp (disch := omega) only [fXX8_isName_16, fXX8_isName_16_0, lit, litN, nI_ltI', nI_leI', nI_eqI, nI_clampI, if_neg]
  have key : ∃ r : Nat, ((r = 1 ∧ nmOK w n) ∨ (r = 0 ∧ ¬ nmOK w n)) ∧ ∀ u : Unit, lfix ((fun _ k16 t => fXX8_isName_16_16 nb k16 t.1 t.2.1 t.2.2) u) FU (nI n, nI 0, XD ρ d) = some (nI r, XD ρ d) := by
    refine lmea (κ := Unit) (fun _ k16 t => fXX8_isName_16_16 nb k16 t.1 t.2.1 t.2.2) (fun k : Nat => (nI n, nI k, XD ρ d)) (fun _ (r : Nat) => some (nI r, XD ρ d)) (fun k => k ≤ n ∧ ∀ j, j < k → w j % 256 ≠ 0 ∧ w j % 256 ≠ 47) _ (fun k => n - k) ?_ FU 0 ⟨Nat.zero_le _, fun j hj => by omega⟩ (by show n - 0 < FU; unfold FU; omega)
    rintro k ⟨h1, h2⟩
    have v := valueAt_X nb d T (k := k) (by omega)
    have v0 := valueAt_X nb d T (k := 0) (by omega)
    have v1 := valueAt_X nb d T (k := 1) (by omega)
    by_cases ck : k = n
    · right
      subst ck
      by_cases d0 : w 0 % 256 = 46
      · by_cases e1 : k = 1
        · refine ⟨0, .inr ⟨rfl, fun h => h.2.2.2 ⟨d0, .inl e1⟩⟩, fun _ K => ?_⟩
          simp (disch := omega) only [fXX8_isName_16_16, fXX8_isName_16_77, fXX8_isName_16_82, lit, litN, nI_ltI', nI_leI', nI_eqI, nI_clampI, if_pos, v0, obs, d0, if_true, if_neg]
        · by_cases e2 : k = 2
          · by_cases d1 : w 1 % 256 = 46
            · refine ⟨0, .inr ⟨rfl, fun h => h.2.2.2 ⟨d0, .inr ⟨e2, d1⟩⟩⟩, fun _ K => ?_⟩
              simp (disch := omega) only [fXX8_isName_16_16, fXX8_isName_16_77, fXX8_isName_16_82, lit, litN, nI_ltI', nI_leI', nI_eqI, nI_clampI, if_pos, v0, v1, obs, d0, d1, if_true, if_false, if_neg]
            · refine ⟨1, .inl ⟨rfl, by omega, by omega, h2, fun h => by omega⟩, fun _ K => ?_⟩
              simp (disch := omega) only [fXX8_isName_16_16, fXX8_isName_16_81, fXX8_isName_16_82, lit, litN, nI_ltI', nI_leI', nI_eqI, nI_clampI, if_pos, v0, v1, obs, d0, d1, if_true, if_false, if_neg]
          · refine ⟨1, .inl ⟨rfl, by omega, by omega, h2, fun h => by omega⟩, fun _ K => ?_⟩
            simp (disch := omega) only [fXX8_isName_16_16, fXX8_isName_16_81, fXX8_isName_16_82, lit, litN, nI_ltI', nI_leI', nI_eqI, nI_clampI, if_pos, v0, obs, d0, if_true, if_neg]
      · refine ⟨1, .inl ⟨rfl, by omega, by omega, h2, fun h => by omega⟩, fun _ K => ?_⟩
        simp (disch := omega) only [fXX8_isName_16_16, fXX8_isName_16_81, fXX8_isName_16_82, lit, litN, nI_ltI', nI_leI', nI_eqI, nI_clampI, if_pos, v0, obs, if_true, if_neg]
    · have hk : k < n := by omega
      by_cases z0 : w k % 256 = 0
      · right; refine ⟨0, .inr ⟨rfl, fun h => (h.2.2.1 k hk).1 z0⟩, fun _ K => ?_⟩
        simp (disch := omega) only [fXX8_isName_16_16, lit, litN, nI_ltI', nI_leI', nI_eqI, nI_clampI, if_neg, v, obs, z0, if_true]
      · by_cases z1 : w k % 256 = 47
        · right; refine ⟨0, .inr ⟨rfl, fun h => (h.2.2.1 k hk).2 z1⟩, fun _ K => ?_⟩
          simp (disch := omega) only [fXX8_isName_16_16, lit, litN, nI_ltI', nI_leI', nI_eqI, nI_clampI, if_neg, v, obs, z1, if_true]
        · left
          refine ⟨k + 1, ⟨by omega, fun j hj => ?_⟩, by show n - (k + 1) < n - k; omega, fun _ K => ?_⟩
          · by_cases e : j = k
            · subst e; exact ⟨z0, z1⟩
            · exact h2 j (by omega)
          · simp (disch := omega) only [fXX8_isName_16_16, lit, litN, nI_ltI', nI_leI', nI_eqI, nI_clampI, if_neg, v, obs, nI_add]
  obtain ⟨r, hr, h⟩ := key
  have h' := h ()
  have e : fXX8_isName_16 nb (nI n) (XD ρ d) = some (nI r, XD ρ d) := by
    simp (disch := omega) only [fXX8_isName_16, fXX8_isName_16_0, lit, litN, nI_ltI', nI_leI', nI_eqI, nI_clampI, if_neg, if_pos]
    exact h'
  rcases hr with ⟨rfl, g⟩ | ⟨rfl, g⟩
  · exact .inl ⟨g, e⟩
  · exact .inr ⟨g, e⟩
def nmEq (f : Nat → Nat) (a : Nat) (w : Nat → Nat) (n : Nat) : Prop := f (a + 6) % 256 = n ∧ ∀ j, j < n → f (a + 8 + j) % 256 = w j % 256
set_option maxRecDepth 4096 in
theorem isNamed_X {nb : Nat} {V : VV} {d : Nat → Nat} {ρ : XS} {L : List Nat} {w : Nat → Nat} (hn : nb ≤ 512) (D : DX nb V d) (R : RdL L ρ) (hL : LO nb V L) (T : TP w ρ) {p a : Nat} (h : L[p]? = some a) (h0 : rd4 (vdat V) a ≠ 0) {n : Nat} (hn' : n ≤ 255) :
    (nmEq (vdat V) a w n ∧ fXX5_isNamed_7_16 nb (nI p) (nI n) (XD ρ d) = some (nI 1, XD ρ d)) ∨ (¬ nmEq (vdat V) a w n ∧ fXX5_isNamed_7_16 nb (nI p) (nI n) (XD ρ d) = some (nI 0, XD ρ d)) := by
  have nl := nameLen_X hn D R hL h
  by_cases c : vdat V (a + 6) % 256 = n
  · have key : ∃ r : Nat, ((r = 1 ∧ nmEq (vdat V) a w n) ∨ (r = 0 ∧ ¬ nmEq (vdat V) a w n)) ∧ ∀ u : Unit, lfix ((fun _ k14 t => fXX5_isNamed_7_16_14 nb k14 t.1 t.2.1 t.2.2.1 t.2.2.2) u) FU (nI p, nI n, nI 0, XD ρ d) = some (nI r, XD ρ d) := by
      refine lmea (κ := Unit) (fun _ k14 t => fXX5_isNamed_7_16_14 nb k14 t.1 t.2.1 t.2.2.1 t.2.2.2) (fun k : Nat => (nI p, nI n, nI k, XD ρ d)) (fun _ (r : Nat) => some (nI r, XD ρ d)) (fun k => k ≤ n ∧ ∀ j, j < k → vdat V (a + 8 + j) % 256 = w j % 256) _ (fun k => n - k) ?_ FU 0 ⟨Nat.zero_le _, fun j hj => by omega⟩ (by show n - 0 < FU; unfold FU; omega)
      rintro k ⟨h1, h2⟩
      by_cases ck : k = n
      · right
        refine ⟨1, .inl ⟨rfl, c, by rw [← ck]; exact h2⟩, fun _ K => ?_⟩
        simp (disch := omega) only [fXX5_isNamed_7_16_14, lit, litN, nI_ltI', nI_leI', nI_eqI, nI_clampI, if_pos]
      · have v := valueAt_X nb d T (k := k) (by omega)
        have lt := letterOf_X hn D R hL h h0 (x := k) (by omega)
        rw [if_pos (by omega)] at lt
        by_cases ce : vdat V (a + 8 + k) % 256 = w k % 256
        · left
          refine ⟨k + 1, ⟨by omega, fun j hj => ?_⟩, by show n - (k + 1) < n - k; omega, fun _ K => ?_⟩
          · by_cases e : j = k
            · subst e; exact ce
            · exact h2 j (by omega)
          · simp (disch := omega) only [fXX5_isNamed_7_16_14, lit, litN, nI_leI', if_neg, lt, obs, v, ce, if_true, nI_add]
        · right
          refine ⟨0, .inr ⟨rfl, fun h => ce (h.2 k (by omega))⟩, fun _ K => ?_⟩
          simp (disch := omega) only [fXX5_isNamed_7_16_14, lit, litN, nI_leI', if_neg, lt, obs, v, nI_ne, ce, if_false]
    obtain ⟨r, hr, h⟩ := key
    have h' := h ()
    have e : fXX5_isNamed_7_16 nb (nI p) (nI n) (XD ρ d) = some (nI r, XD ρ d) := by
      simp only [fXX5_isNamed_7_16, fXX5_isNamed_7_16_0, nl, obs, c, if_true, lit, litN]
      exact h'
    rcases hr with ⟨rfl, g⟩ | ⟨rfl, g⟩
    · exact .inl ⟨g, e⟩
    · exact .inr ⟨g, e⟩
  · right
    refine ⟨fun h => c h.1, ?_⟩
    simp (disch := omega) only [fXX5_isNamed_7_16, fXX5_isNamed_7_16_0, nl, obs, nI_ne, c, if_false, lit, litN]
set_option maxRecDepth 4096 in
theorem has1_X {nb : Nat} {V : VV} {d : Nat → Nat} {ρ : XS} {L : List Nat} {w : Nat → Nat} (hn : nb ≤ 512) (D : DX nb V d) (R : RdL L ρ) (hL : LO nb V L) (T : TP w ρ) {m : Nat} (hm : m ≤ 255) : ∀ (M : List Nat) (p n : Nat), L.drop p = M → p ≤ L.length → M.length < n →
    ((∃ a ∈ M.filter (nz (vdat V)), nmEq (vdat V) a w m) ∧ lfix (fun k2 t => fXX5_has_7_16_2 nb k2 t.1 t.2.1 t.2.2) n (nI m, nI p, XD ρ d) = some (nI 1, XD ρ d)) ∨
    ((∀ a ∈ M.filter (nz (vdat V)), ¬ nmEq (vdat V) a w m) ∧ lfix (fun k2 t => fXX5_has_7_16_2 nb k2 t.1 t.2.1 t.2.2) n (nI m, nI p, XD ρ d) = some (nI 0, XD ρ d)) := by
  have h2 := R.2.1
  intro M
  induction M with
  | nil =>
    intro p n hd hp hn'
    obtain ⟨n, rfl⟩ : ∃ k, n = k + 1 := ⟨n - 1, by omega⟩
    have := drop_nil hd
    right
    refine ⟨fun a ha => (by cases ha), ?_⟩
    show fXX5_has_7_16_2 nb _ (nI m) (nI p) (XD ρ d) = _
    simp (disch := omega) only [fXX5_has_7_16_2, cnt7 d R, nI_ltI', nI_leI', nI_eqI, nI_clampI, if_pos, lit, litN]
  | cons x M ih =>
    intro p n hd hp hn'
    obtain ⟨n, rfl⟩ : ∃ k, n = k + 1 := ⟨n - 1, by omega⟩
    obtain ⟨g1, g2, g3⟩ := drop_cons hd
    rw [List.length_cons] at hn'
    have io := inodeOf_X hn D R hL g2
    have hlt := rd4_lt (vdat V) x
    by_cases c0 : rd4 (vdat V) x = 0
    · have gen : ∀ K, fXX5_has_7_16_2 nb K (nI m) (nI p) (XD ρ d) = K (nI m, nI (p + 1), XD ρ d) := fun K => by
        simp (disch := omega) only [fXX5_has_7_16_2, fXX5_has_7_16_30, cnt7 d R, nI_ltI', nI_leI', nI_eqI, nI_clampI, if_neg, io, obs, lit, litN, c0, if_true, nI_add]
      rw [List.filter_cons_of_neg (nz_f.mpr c0)]
      rcases ih (p + 1) n g3 (by omega) (by omega) with ⟨q1, q2⟩ | ⟨q1, q2⟩
      · left; refine ⟨q1, ?_⟩
        show fXX5_has_7_16_2 nb _ (nI m) (nI p) (XD ρ d) = _
        rw [gen]; exact q2
      · right; refine ⟨q1, ?_⟩
        show fXX5_has_7_16_2 nb _ (nI m) (nI p) (XD ρ d) = _
        rw [gen]; exact q2
    · rw [List.filter_cons_of_pos (nz_t.mpr c0)]
      rcases isNamed_X hn D R hL T g2 c0 hm with ⟨s1, s2⟩ | ⟨s1, s2⟩
      · left
        refine ⟨⟨x, List.mem_cons_self .., s1⟩, ?_⟩
        show fXX5_has_7_16_2 nb _ (nI m) (nI p) (XD ρ d) = _
        simp (disch := omega) only [fXX5_has_7_16_2, fXX5_has_7_16_30, cnt7 d R, nI_leI', if_neg, io, obs, lit, litN, nI_z, c0, if_false, s2, nI_eqI]
      · have gen : ∀ K, fXX5_has_7_16_2 nb K (nI m) (nI p) (XD ρ d) = K (nI m, nI (p + 1), XD ρ d) := fun K => by
          simp (disch := omega) only [fXX5_has_7_16_2, fXX5_has_7_16_30, cnt7 d R, nI_leI', if_neg, io, obs, lit, litN, nI_z, c0, if_false, s2, if_true, nI_add]
        rcases ih (p + 1) n g3 (by omega) (by omega) with ⟨⟨a, q1, q1'⟩, q2⟩ | ⟨q1, q2⟩
        · left; refine ⟨⟨a, List.mem_cons_of_mem _ q1, q1'⟩, ?_⟩
          show fXX5_has_7_16_2 nb _ (nI m) (nI p) (XD ρ d) = _
          rw [gen]; exact q2
        · right; refine ⟨fun a ha => ?_, ?_⟩
          · rcases List.mem_cons.mp ha with e | e
            · rw [e]; exact s1
            · exact q1 a e
          · show fXX5_has_7_16_2 nb _ (nI m) (nI p) (XD ρ d) = _
            rw [gen]; exact q2
set_option maxRecDepth 4096 in
theorem has_X {nb : Nat} {V : VV} {d : Nat → Nat} {ρ : XS} {L : List Nat} {w : Nat → Nat} (hn : nb ≤ 512) (D : DX nb V d) (R : RdL L ρ) (hL : LO nb V L) (h2 : 2 ≤ L.length) (T : TP w ρ) {m : Nat} (hm : m ≤ 255) :
    ((∃ a ∈ itm (vdat V) L, nmEq (vdat V) a w m) ∧ fXX5_has_7_16 nb (nI m) (XD ρ d) = some (nI 1, XD ρ d)) ∨ ((∀ a ∈ itm (vdat V) L, ¬ nmEq (vdat V) a w m) ∧ fXX5_has_7_16 nb (nI m) (XD ρ d) = some (nI 0, XD ρ d)) := by
  have hr := R.2.1
  rcases has1_X hn D R hL T hm (L.drop 2) 2 FU rfl h2 (by rw [List.length_drop]; unfold FU; omega) with ⟨q1, q2⟩ | ⟨q1, q2⟩
  · left; refine ⟨q1, ?_⟩
    simp only [fXX5_has_7_16, fXX5_has_7_16_0, lit, litN]
    exact q2
  · right; refine ⟨q1, ?_⟩
    simp only [fXX5_has_7_16, fXX5_has_7_16_0, lit, litN]
    exact q2
def rmf (f : Nat → Nat) (n a : Nat) : Prop := usd f a + spc n ≤ rd2 f (a + 4)
set_option maxRecDepth 4096 in
theorem room1_X {nb : Nat} {V : VV} {d : Nat → Nat} {ρ : XS} {L : List Nat} (hn : nb ≤ 512) (D : DX nb V d) (R : RdL L ρ) (hL : LO nb V L) {m : Nat} (hm : m ≤ 255) : ∀ (M : List Nat) (p n : Nat), L.drop p = M → p ≤ L.length → M.length < n →
    (∃ l1 a l2, M = l1 ++ a :: l2 ∧ L[p + l1.length]? = some a ∧ rmf (vdat V) m a ∧ (∀ b ∈ l1, ¬ rmf (vdat V) m b) ∧ lfix (fun k7 t => fXX5_roomFor_7_7 nb k7 t.1 t.2.1 t.2.2) n (nI (spc m), nI p, XD ρ d) = some (nI (p + l1.length), XD ρ d)) ∨
    ((∀ b ∈ M, ¬ rmf (vdat V) m b) ∧ lfix (fun k7 t => fXX5_roomFor_7_7 nb k7 t.1 t.2.1 t.2.2) n (nI (spc m), nI p, XD ρ d) = some (-nI 1, XD ρ d)) := by
  have h2 := R.2.1
  have hsp : spc m < 1000 := by unfold spc; omega
  intro M
  induction M with
  | nil =>
    intro p n hd hp hn'
    obtain ⟨n, rfl⟩ : ∃ k, n = k + 1 := ⟨n - 1, by omega⟩
    have := drop_nil hd
    right
    refine ⟨fun a ha => (by cases ha), ?_⟩
    show fXX5_roomFor_7_7 nb _ (nI (spc m)) (nI p) (XD ρ d) = _
    simp (disch := omega) only [fXX5_roomFor_7_7, cnt7 d R, nI_ltI', nI_leI', nI_eqI, nI_clampI, if_pos, lit, litN]
  | cons x M ih =>
    intro p n hd hp hn'
    obtain ⟨n, rfl⟩ : ∃ k, n = k + 1 := ⟨n - 1, by omega⟩
    obtain ⟨g1, g2, g3⟩ := drop_cons hd
    rw [List.length_cons] at hn'
    have lo := lengthOf_X hn D R hL g2
    have ub := usedBy_X hn D R hL g2
    obtain ⟨a1, a2, a3, a4⟩ := hL x (get_mem g2)
    have hu : usd (vdat V) x ≤ rd2 (vdat V) (x + 4) := by
      by_cases c : rd4 (vdat V) x = 0
      · unfold usd; rw [if_pos c]; omega
      · exact a4 c
    by_cases c : rmf (vdat V) m x
    · left
      have c' : usd (vdat V) x + spc m ≤ rd2 (vdat V) (x + 4) := c
      refine ⟨[], x, M, rfl, g2, c, fun b hb => (by cases hb), ?_⟩
      show fXX5_roomFor_7_7 nb _ (nI (spc m)) (nI p) (XD ρ d) = _
      simp (disch := omega) only [fXX5_roomFor_7_7, cnt7 d R, nI_ltI', nI_leI', nI_eqI, nI_clampI, if_neg, lo, obs, ub, nI_sub]
      rfl
    · have c' : ¬ usd (vdat V) x + spc m ≤ rd2 (vdat V) (x + 4) := c
      have gen : ∀ K, fXX5_roomFor_7_7 nb K (nI (spc m)) (nI p) (XD ρ d) = K (nI (spc m), nI (p + 1), XD ρ d) := fun K => by
        simp (disch := omega) only [fXX5_roomFor_7_7, cnt7 d R, nI_ltI', nI_leI', nI_eqI, nI_clampI, if_neg, if_pos, lo, obs, ub, nI_sub, lit, litN, nI_add]
      rcases ih (p + 1) n g3 (by omega) (by omega) with ⟨l1, a, l2, q1, q2, q3, q4, q5⟩ | ⟨q1, q2⟩
      · left
        refine ⟨x :: l1, a, l2, by rw [q1]; rfl, ?_, q3, fun b hb => ?_, ?_⟩
        · rw [List.length_cons, show p + (l1.length + 1) = p + 1 + l1.length by omega]; exact q2
        · rcases List.mem_cons.mp hb with e | e
          · rw [e]; exact c
          · exact q4 b e
        · show fXX5_roomFor_7_7 nb _ (nI (spc m)) (nI p) (XD ρ d) = _
          rw [gen, List.length_cons, show p + (l1.length + 1) = p + 1 + l1.length by omega]; exact q5
      · right
        refine ⟨fun b hb => ?_, ?_⟩
        · rcases List.mem_cons.mp hb with e | e
          · rw [e]; exact c
          · exact q1 b e
        · show fXX5_roomFor_7_7 nb _ (nI (spc m)) (nI p) (XD ρ d) = _
          rw [gen]; exact q2
set_option maxRecDepth 4096 in
theorem roomFor_X {nb : Nat} {V : VV} {d : Nat → Nat} {ρ : XS} {L : List Nat} (hn : nb ≤ 512) (D : DX nb V d) (R : RdL L ρ) (hL : LO nb V L) {m : Nat} (hm : m ≤ 255) :
    (∃ l1 a l2, L = l1 ++ a :: l2 ∧ L[l1.length]? = some a ∧ rmf (vdat V) m a ∧ (∀ b ∈ l1, ¬ rmf (vdat V) m b) ∧ fXX5_roomFor_7 nb (nI m) (XD ρ d) = some (nI l1.length, XD ρ d)) ∨
    ((∀ b ∈ L, ¬ rmf (vdat V) m b) ∧ fXX5_roomFor_7 nb (nI m) (XD ρ d) = some (-nI 1, XD ρ d)) := by
  have hr := R.2.1
  have sp := spaceFor_X nb (XD ρ d) (n := m) (by omega)
  rcases room1_X hn D R hL hm L 0 FU rfl (Nat.zero_le _) (by unfold FU; omega) with ⟨l1, a, l2, q1, q2, q3, q4, q5⟩ | ⟨q1, q2⟩
  · left; rw [Nat.zero_add] at q2 q5
    refine ⟨l1, a, l2, q1, q2, q3, q4, ?_⟩
    simp only [fXX5_roomFor_7, fXX5_roomFor_7_0, sp, obs, lit, litN]
    exact q5
  · right; refine ⟨q1, ?_⟩
    simp only [fXX5_roomFor_7, fXX5_roomFor_7_0, sp, obs, lit, litN]
    exact q2
