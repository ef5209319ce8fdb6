def spc (n : Nat) : Nat := (8 + n + 3) / 4 * 4
def usd (f : Nat → Nat) (a : Nat) : Nat := if rd4 f a = 0 then 0 else spc (f (a + 6) % 256)
def LO (nb : Nat) (V : VV) (L : List Nat) : Prop := ∀ a ∈ L, Adr nb V a ∧ a % 1024 + rd2 (vdat V) (a + 4) ≤ 1024 ∧ 12 ≤ rd2 (vdat V) (a + 4) ∧ (rd4 (vdat V) a ≠ 0 → usd (vdat V) a ≤ rd2 (vdat V) (a + 4))
def nz (f : Nat → Nat) (a : Nat) : Bool := rd4 f a != 0
def itm (f : Nat → Nat) (L : List Nat) : List Nat := (L.drop 2).filter (nz f)
set_option maxRecDepth 4096 in
theorem nz_t {f : Nat → Nat} {a : Nat} : nz f a = true ↔ rd4 f a ≠ 0 := by unfold nz; simp
set_option maxRecDepth 4096 in
theorem nz_f {f : Nat → Nat} {a : Nat} : ¬ nz f a = true ↔ rd4 f a = 0 := by unfold nz; simp
set_option maxRecDepth 4096 in
theorem rd4_lt (f : Nat → Nat) (a : Nat) : rd4 f a < 4294967296 := by unfold rd4; omega
set_option maxRecDepth 4096 in
theorem rd2_lt (f : Nat → Nat) (a : Nat) : rd2 f a < 65536 := by unfold rd2; omega
set_option maxRecDepth 4096 in
theorem nI_z {x : Nat} (h : x < 4294967296) : (nI x = nI 0) = (x = 0) := propext ⟨fun e => nI_inj h (by omega) e, fun e => by rw [e]⟩
set_option maxRecDepth 4096 in
theorem nI_ne {x y : Nat} (h : x < 4294967296) (h2 : y < 4294967296) : (nI x = nI y) = (x = y) := propext ⟨fun e => nI_inj h h2 e, fun e => by rw [e]⟩
set_option maxRecDepth 4096 in
theorem drop_cons {L R : List Nat} {p x : Nat} (h : L.drop p = x :: R) : p < L.length ∧ L[p]? = some x ∧ L.drop (p + 1) = R := by
  have hp : p < L.length := by
    rcases Nat.lt_or_ge p L.length with c | c
    · exact c
    · rw [List.drop_eq_nil_of_le c] at h; cases h
  rw [List.drop_eq_getElem_cons hp] at h
  injection h with h1 h2
  exact ⟨hp, by rw [List.getElem?_eq_getElem hp, h1], h2⟩
set_option maxRecDepth 4096 in
theorem drop_nil {L : List Nat} {p : Nat} (h : L.drop p = []) : L.length ≤ p := by
  rcases Nat.lt_or_ge p L.length with c | c
  · rw [List.drop_eq_getElem_cons c] at h; cases h
  · exact c
set_option maxRecDepth 4096 in
theorem get_lt {L : List Nat} {p a : Nat} (h : L[p]? = some a) : p < L.length := by
  rcases Nat.lt_or_ge p L.length with k | k
  · exact k
  · rw [List.getElem?_eq_none k] at h; cases h
set_option maxRecDepth 4096 in
theorem get_mem {L : List Nat} {p a : Nat} (h : L[p]? = some a) : a ∈ L := List.mem_of_getElem? h
set_option maxRecDepth 4096 in
theorem entryAt_X {L : List Nat} {ρ : XS} (nb : Nat) (d : Nat → Nat) (R : RdL L ρ) {p a : Nat} (h : L[p]? = some a) : fXX5_entryAt_7 nb (nI p) (XD ρ d) = some (nI a, XD ρ d) := by
  have hp := get_lt h
  have h2 := R.2.1
  have e : (XD ρ d).1 7 = nI L.length := R.1
  have e2 : (XD ρ d).2.1 1 p = nI a := by rw [XD_o _ _ (by omega)]; exact R.2.2 p a h
  simp (disch := omega) only [fXX5_entryAt_7_0, fXX5_entryAt_7, lit, litN, e, nI_ltI', nI_leI', nI_eqI, nI_clampI, n_or, if_neg, e2]
set_option maxRecDepth 4096 in
theorem entryAt_N {L : List Nat} {ρ : XS} (nb : Nat) (d : Nat → Nat) (R : RdL L ρ) {p : Nat} (h : L.length ≤ p) (hp : p < 2147483648) : fXX5_entryAt_7 nb (nI p) (XD ρ d) = some (-nI 1, XD ρ d) := by
  have h2 := R.2.1
  have e : (XD ρ d).1 7 = nI L.length := R.1
  simp (disch := omega) only [fXX5_entryAt_7_0, fXX5_entryAt_7, lit, litN, e, nI_ltI', nI_leI', nI_eqI, nI_clampI, if_neg, if_pos]
set_option maxRecDepth 4096 in
theorem inodeOf_X {nb : Nat} {V : VV} {d : Nat → Nat} {ρ : XS} {L : List Nat} (hn : nb ≤ 512) (D : DX nb V d) (R : RdL L ρ) (hL : LO nb V L) {p a : Nat} (h : L[p]? = some a) : fXX5_inodeOf_7 nb (nI p) (XD ρ d) = some (nI (rd4 (vdat V) a), XD ρ d) := by
  have e := entryAt_X nb d R h
  obtain ⟨h1, h2, h3, h4⟩ := hL a (get_mem h)
  have r := Adr_4 D h1
  have := h1.1
  simp (disch := omega) only [fXX5_inodeOf_7_0, fXX5_inodeOf_7, e, obs, get4_X, r]
set_option maxRecDepth 4096 in
theorem lengthOf_X {nb : Nat} {V : VV} {d : Nat → Nat} {ρ : XS} {L : List Nat} (hn : nb ≤ 512) (D : DX nb V d) (R : RdL L ρ) (hL : LO nb V L) {p a : Nat} (h : L[p]? = some a) : fXX5_lengthOf_7 nb (nI p) (XD ρ d) = some (nI (rd2 (vdat V) (a + 4)), XD ρ d) := by
  have e := entryAt_X nb d R h
  obtain ⟨h1, h2, h3, h4⟩ := hL a (get_mem h)
  have r := Adr_2 D h1
  have := h1.1
  simp (disch := omega) only [fXX5_lengthOf_7_0, fXX5_lengthOf_7, e, obs, lit, litN, nI_add, get2_X, r]
set_option maxRecDepth 4096 in
theorem nameLen_X {nb : Nat} {V : VV} {d : Nat → Nat} {ρ : XS} {L : List Nat} (hn : nb ≤ 512) (D : DX nb V d) (R : RdL L ρ) (hL : LO nb V L) {p a : Nat} (h : L[p]? = some a) : fXX5_nameLengthOf_7 nb (nI p) (XD ρ d) = some (nI (vdat V (a + 6) % 256), XD ρ d) := by
  have e := entryAt_X nb d R h
  obtain ⟨h1, h2, h3, h4⟩ := hL a (get_mem h)
  have r := Adr_d D h1 6 (by omega)
  have := h1.1
  simp (disch := omega) only [fXX5_nameLengthOf_7_0, fXX5_nameLengthOf_7, e, obs, lit, litN, nI_add, get_X, r]
set_option maxRecDepth 4096 in
theorem spaceFor_X (nb : Nat) (σ : XS) {n : Nat} (h : n < 100000) : fXX5_spaceFor nb (nI n) σ = some (nI (spc n), σ) := by
  simp (disch := omega) only [fXX5_spaceFor_0, fXX5_spaceFor, lit, litN, nI_add, nI_div, nI_mul, spc]
set_option maxRecDepth 4096 in
theorem usedBy_X {nb : Nat} {V : VV} {d : Nat → Nat} {ρ : XS} {L : List Nat} (hn : nb ≤ 512) (D : DX nb V d) (R : RdL L ρ) (hL : LO nb V L) {p a : Nat} (h : L[p]? = some a) : fXX5_usedBy_7 nb (nI p) (XD ρ d) = some (nI (usd (vdat V) a), XD ρ d) := by
  have e := entryAt_X nb d R h
  obtain ⟨h1, h2, h3, h4⟩ := hL a (get_mem h)
  have r := Adr_d D h1 6 (by omega)
  have r4 := Adr_4 D h1
  have := h1.1
  have hlt := rd4_lt (vdat V) a
  have s := spaceFor_X nb (XD ρ d) (n := vdat V (a + 6) % 256) (by omega)
  unfold usd
  by_cases c : rd4 (vdat V) a = 0
  · rw [if_pos c]
    simp (disch := omega) only [fXX5_usedBy_7_0, fXX5_usedBy_7, e, obs, lit, litN, nI_add, get4_X, r4, c, if_true]
  · rw [if_neg c]
    simp (disch := omega) only [fXX5_usedBy_7_0, fXX5_usedBy_7, e, obs, lit, litN, nI_add, get4_X, r4, nI_z, c, if_false, get_X, r, s]
set_option maxRecDepth 4096 in
theorem nI_nn {n : Nat} (h1 : n < 2147483648) : ¬ nI n < nI 0 := by rw [nI_ltI' h1 (by omega)]; omega
set_option maxRecDepth 4096 in
theorem letterOf_X {nb : Nat} {V : VV} {d : Nat → Nat} {ρ : XS} {L : List Nat} (hn : nb ≤ 512) (D : DX nb V d) (R : RdL L ρ) (hL : LO nb V L) {p a : Nat} (h : L[p]? = some a) (h0 : rd4 (vdat V) a ≠ 0) {x : Nat} (hx : x < 4294967296) :
    fXX5_letterOf_7 nb (nI p) (nI x) (XD ρ d) = some (if x < vdat V (a + 6) % 256 then nI (vdat V (a + 8 + x) % 256) else -nI 1, XD ρ d) := by
  have e := entryAt_X nb d R h
  obtain ⟨h1, h2, h3, h4⟩ := hL a (get_mem h)
  have h4 := h4 h0
  unfold usd spc at h4
  rw [if_neg h0] at h4
  have r := Adr_d D h1 6 (by omega)
  have := h1.1
  by_cases c : x < 2147483648
  · have g := nI_nn c
    by_cases c2 : x < vdat V (a + 6) % 256
    · rw [if_pos c2]
      have r2 := Adr_d D h1 (8 + x) (by omega)
      rw [← Nat.add_assoc] at r2
      simp (disch := omega) only [fXX5_letterOf_7_30, fXX5_letterOf_7_29, fXX5_letterOf_7_0, fXX5_letterOf_7, e, obs, lit, litN, g, if_false, nI_add, get_X, r, nI_ltI', nI_leI', nI_eqI, nI_clampI, if_pos, if_neg, r2]
    · rw [if_neg c2]
      simp (disch := omega) only [fXX5_letterOf_7_30, fXX5_letterOf_7_29, fXX5_letterOf_7_0, fXX5_letterOf_7, e, obs, lit, litN, g, if_false, nI_add, get_X, r, nI_ltI', nI_leI', nI_eqI, nI_clampI, if_pos, if_neg, if_true]
  · have g := nI_neg (by omega) hx
    rw [if_neg (by omega)]
    simp (disch := omega) only [fXX5_letterOf_7_30, fXX5_letterOf_7_29, fXX5_letterOf_7_0, fXX5_letterOf_7, e, obs, lit, litN, g, if_true, nI_add, get_X, r, if_false]
set_option maxRecDepth 4096 in
theorem cnt7 {L : List Nat} {ρ : XS} (d : Nat → Nat) (R : RdL L ρ) : (XD ρ d).1 7 = nI L.length := R.1
set_option maxRecDepth 4096 in
theorem items1_X {nb : Nat} {V : VV} {d : Nat → Nat} {ρ : XS} {L : List Nat} (hn : nb ≤ 512) (D : DX nb V d) (R : RdL L ρ) (hL : LO nb V L) : ∀ (M : List Nat) (p c n : Nat), L.drop p = M → p ≤ L.length → M.length < n → lfix (fun k4 t => fXX5_itemCount_7_4 nb k4 t.1 t.2.1 t.2.2) n (nI c, nI p, XD ρ d) = some (nI (c + (M.filter (nz (vdat V))).length), XD ρ d) := by
  have h2 := R.2.1
  intro M
  induction M with
  | nil =>
    intro p c n hd hp hn'
    obtain ⟨n, rfl⟩ : ∃ k, n = k + 1 := ⟨n - 1, by omega⟩
    have := drop_nil hd
    show fXX5_itemCount_7_4 nb _ (nI c) (nI p) (XD ρ d) = _
    simp (disch := omega) only [fXX5_itemCount_7_4, cnt7 d R, nI_ltI', nI_leI', nI_eqI, nI_clampI, if_pos]
    rfl
  | cons x M ih =>
    intro p c n hd hp hn'
    obtain ⟨n, rfl⟩ : ∃ k, n = k + 1 := ⟨n - 1, by omega⟩
    obtain ⟨g1, g2, g3⟩ := drop_cons hd
    rw [List.length_cons] at hn'
    have io := inodeOf_X hn D R hL g2
    have hlt := rd4_lt (vdat V) x
    show fXX5_itemCount_7_4 nb _ (nI c) (nI p) (XD ρ d) = _
    by_cases c0 : rd4 (vdat V) x = 0
    · have gen : ∀ K, fXX5_itemCount_7_4 nb K (nI c) (nI p) (XD ρ d) = K (nI c, nI (p + 1), XD ρ d) := fun K => by
        simp (disch := omega) only [fXX5_itemCount_7_4, fXX5_itemCount_7_23, cnt7 d R, nI_ltI', nI_leI', nI_eqI, nI_clampI, if_neg, io, obs, lit, litN, c0, if_true, nI_add]
      rw [gen, ih (p + 1) c n g3 (by omega) (by omega), List.filter_cons_of_neg (nz_f.mpr c0)]
    · have gen : ∀ K, fXX5_itemCount_7_4 nb K (nI c) (nI p) (XD ρ d) = K (nI (c + 1), nI (p + 1), XD ρ d) := fun K => by
        simp (disch := omega) only [fXX5_itemCount_7_4, fXX5_itemCount_7_23, cnt7 d R, nI_ltI', nI_leI', nI_eqI, nI_clampI, if_neg, io, obs, lit, litN, nI_z, c0, if_false, nI_add]
      rw [gen, ih (p + 1) (c + 1) n g3 (by omega) (by omega), List.filter_cons_of_pos (nz_t.mpr c0), List.length_cons]
      congr 3; omega
set_option maxRecDepth 4096 in
theorem itemCount_X {nb : Nat} {V : VV} {d : Nat → Nat} {ρ : XS} {L : List Nat} (hn : nb ≤ 512) (D : DX nb V d) (R : RdL L ρ) (hL : LO nb V L) (h2 : 2 ≤ L.length) : fXX5_itemCount_7 nb (XD ρ d) = some (nI (itm (vdat V) L).length, XD ρ d) := by
  have hr := R.2.1
  have := items1_X hn D R hL (L.drop 2) 2 0 FU rfl h2 (by rw [List.length_drop]; unfold FU; omega)
  rw [Nat.zero_add] at this
  simp only [fXX5_itemCount_7, fXX5_itemCount_7_0, lit, litN]
  exact this
set_option maxRecDepth 4096 in
theorem place1_X {nb : Nat} {V : VV} {d : Nat → Nat} {ρ : XS} {L : List Nat} (hn : nb ≤ 512) (D : DX nb V d) (R : RdL L ρ) (hL : LO nb V L) {k : Nat} (hk : k < 4294967296) : ∀ (M : List Nat) (p c n : Nat), L.drop p = M → p ≤ L.length → M.length < n → c ≤ k → c ≤ p →
    (∃ q a, p ≤ q ∧ L[q]? = some a ∧ (M.filter (nz (vdat V)))[k - c]? = some a ∧ lfix (fun k4 t => fXX5_placeOf_7_4 nb k4 t.1 t.2.1 t.2.2.1 t.2.2.2) n (nI k, nI c, nI p, XD ρ d) = some (nI q, XD ρ d)) ∨
    ((M.filter (nz (vdat V)))[k - c]? = none ∧ lfix (fun k4 t => fXX5_placeOf_7_4 nb k4 t.1 t.2.1 t.2.2.1 t.2.2.2) n (nI k, nI c, nI p, XD ρ d) = some (-nI 1, XD ρ d)) := by
  have h2 := R.2.1
  intro M
  induction M with
  | nil =>
    intro p c n hd hp hn' hc hcp
    obtain ⟨n, rfl⟩ : ∃ k, n = k + 1 := ⟨n - 1, by omega⟩
    have := drop_nil hd
    right
    refine ⟨rfl, ?_⟩
    show fXX5_placeOf_7_4 nb _ (nI k) (nI c) (nI p) (XD ρ d) = _
    simp (disch := omega) only [fXX5_placeOf_7_4, cnt7 d R, nI_ltI', nI_leI', nI_eqI, nI_clampI, if_pos, lit, litN]
  | cons x M ih =>
    intro p c n hd hp hn' hc hcp
    obtain ⟨n, rfl⟩ : ∃ k, n = k + 1 := ⟨n - 1, by omega⟩
    obtain ⟨g1, g2, g3⟩ := drop_cons hd
    rw [List.length_cons] at hn'
    have io := inodeOf_X hn D R hL g2
    have hlt := rd4_lt (vdat V) x
    by_cases c0 : rd4 (vdat V) x = 0
    · have gen : ∀ K, fXX5_placeOf_7_4 nb K (nI k) (nI c) (nI p) (XD ρ d) = K (nI k, nI c, nI (p + 1), XD ρ d) := fun K => by
        simp (disch := omega) only [fXX5_placeOf_7_4, fXX5_placeOf_7_30, cnt7 d R, nI_ltI', nI_leI', nI_eqI, nI_clampI, if_neg, io, obs, lit, litN, c0, if_true, nI_add]
      rw [List.filter_cons_of_neg (nz_f.mpr c0)]
      rcases ih (p + 1) c n g3 (by omega) (by omega) hc (by omega) with ⟨q, a, q1, q2, q3, q4⟩ | ⟨q1, q2⟩
      · left; refine ⟨q, a, by omega, q2, q3, ?_⟩
        show fXX5_placeOf_7_4 nb _ (nI k) (nI c) (nI p) (XD ρ d) = _
        rw [gen]; exact q4
      · right; refine ⟨q1, ?_⟩
        show fXX5_placeOf_7_4 nb _ (nI k) (nI c) (nI p) (XD ρ d) = _
        rw [gen]; exact q2
    · rw [List.filter_cons_of_pos (nz_t.mpr c0)]
      by_cases ck : c = k
      · left
        refine ⟨p, x, Nat.le_refl _, g2, by rw [ck, Nat.sub_self]; rfl, ?_⟩
        show fXX5_placeOf_7_4 nb _ (nI k) (nI c) (nI p) (XD ρ d) = _
        simp (disch := omega) only [fXX5_placeOf_7_4, fXX5_placeOf_7_30, cnt7 d R, nI_ltI', nI_leI', nI_eqI, nI_clampI, if_neg, io, obs, lit, litN, nI_z, c0, if_false, ck, if_true]
      · have gen : ∀ K, fXX5_placeOf_7_4 nb K (nI k) (nI c) (nI p) (XD ρ d) = K (nI k, nI (c + 1), nI (p + 1), XD ρ d) := fun K => by
          simp (disch := omega) only [fXX5_placeOf_7_4, fXX5_placeOf_7_30, cnt7 d R, nI_leI', if_neg, io, obs, lit, litN, nI_z, c0, if_false, nI_ne, ck, nI_add]
        obtain ⟨j, hj⟩ : ∃ j, k - c = j + 1 := ⟨k - c - 1, by omega⟩
        rw [hj, List.getElem?_cons_succ, show j = k - (c + 1) by omega]
        rcases ih (p + 1) (c + 1) n g3 (by omega) (by omega) (by omega) (by omega) with ⟨q, a, q1, q2, q3, q4⟩ | ⟨q1, q2⟩
        · left; refine ⟨q, a, by omega, q2, q3, ?_⟩
          show fXX5_placeOf_7_4 nb _ (nI k) (nI c) (nI p) (XD ρ d) = _
          rw [gen]; exact q4
        · right; refine ⟨q1, ?_⟩
          show fXX5_placeOf_7_4 nb _ (nI k) (nI c) (nI p) (XD ρ d) = _
          rw [gen]; exact q2
set_option maxRecDepth 4096 in
theorem placeOf_X {nb : Nat} {V : VV} {d : Nat → Nat} {ρ : XS} {L : List Nat} (hn : nb ≤ 512) (D : DX nb V d) (R : RdL L ρ) (hL : LO nb V L) (h2 : 2 ≤ L.length) {k : Nat} (hk : k < 4294967296) :
    (∃ q a, 2 ≤ q ∧ L[q]? = some a ∧ (itm (vdat V) L)[k]? = some a ∧ fXX5_placeOf_7 nb (nI k) (XD ρ d) = some (nI q, XD ρ d)) ∨ ((itm (vdat V) L)[k]? = none ∧ fXX5_placeOf_7 nb (nI k) (XD ρ d) = some (-nI 1, XD ρ d)) := by
  have hr := R.2.1
  rcases place1_X hn D R hL hk (L.drop 2) 2 0 FU rfl h2 (by rw [List.length_drop]; unfold FU; omega) (by omega) (by omega) with ⟨q, a, q1, q2, q3, q4⟩ | ⟨q1, q2⟩
  · left; refine ⟨q, a, q1, q2, q3, ?_⟩
    simp only [fXX5_placeOf_7, fXX5_placeOf_7_0, lit, litN]
    exact q4
  · right; refine ⟨q1, ?_⟩
    simp only [fXX5_placeOf_7, fXX5_placeOf_7_0, lit, litN]
    exact q2
set_option maxRecDepth 4096 in
theorem number1_X {nb : Nat} {V : VV} {d : Nat → Nat} {ρ : XS} {L : List Nat} (hn : nb ≤ 512) (D : DX nb V d) (R : RdL L ρ) (hL : LO nb V L) {e : Nat} (he : rd4 (vdat V) e ≠ 0) (hee : e < 4294967296) : ∀ (M : List Nat) (p c n : Nat), L.drop p = M → p ≤ L.length → M.length < n → e ∈ M →
    ∃ q, (M.filter (nz (vdat V)))[q]? = some e ∧ (∀ j, j < q → (M.filter (nz (vdat V)))[j]? ≠ some e) ∧ lfix (fun k4 t => fXX5_numberOf_7_4 nb k4 t.1 t.2.1 t.2.2.1 t.2.2.2) n (nI e, nI c, nI p, XD ρ d) = some (nI (c + q), XD ρ d) := by
  have h2 := R.2.1
  intro M
  induction M with
  | nil => intro p c n hd hp hn' hm; cases hm
  | cons x M ih =>
    intro p c n hd hp hn' hm
    obtain ⟨n, rfl⟩ : ∃ k, n = k + 1 := ⟨n - 1, by omega⟩
    obtain ⟨g1, g2, g3⟩ := drop_cons hd
    rw [List.length_cons] at hn'
    have io := inodeOf_X hn D R hL g2
    have ea := entryAt_X nb d R g2
    have hlt := rd4_lt (vdat V) x
    have hxa := (hL x (get_mem g2)).1.1
    by_cases ce : x = e
    · refine ⟨0, ?_, fun j hj => by omega, ?_⟩
      · rw [ce, List.filter_cons_of_pos (nz_t.mpr he)]; rfl
      · show fXX5_numberOf_7_4 nb _ (nI e) (nI c) (nI p) (XD ρ d) = _
        simp (disch := omega) only [fXX5_numberOf_7_4, cnt7 d R, nI_ltI', nI_leI', nI_eqI, nI_clampI, if_neg, ea, obs, ce, if_true]
        rfl
    · have hm' : e ∈ M := by
        rcases List.mem_cons.mp hm with h | h
        · exact absurd h.symm ce
        · exact h
      by_cases c0 : rd4 (vdat V) x = 0
      · have gen : ∀ K, fXX5_numberOf_7_4 nb K (nI e) (nI c) (nI p) (XD ρ d) = K (nI e, nI c, nI (p + 1), XD ρ d) := fun K => by
          simp (disch := omega) only [fXX5_numberOf_7_4, fXX5_numberOf_7_34, cnt7 d R, nI_leI', if_neg, ea, io, obs, lit, litN, nI_ne, ce, c0, if_true, if_false, nI_add]
        obtain ⟨q, q1, q2, q3⟩ := ih (p + 1) c n g3 (by omega) (by omega) hm'
        rw [List.filter_cons_of_neg (nz_f.mpr c0)]
        refine ⟨q, q1, q2, ?_⟩
        show fXX5_numberOf_7_4 nb _ (nI e) (nI c) (nI p) (XD ρ d) = _
        rw [gen]; exact q3
      · have gen : ∀ K, fXX5_numberOf_7_4 nb K (nI e) (nI c) (nI p) (XD ρ d) = K (nI e, nI (c + 1), nI (p + 1), XD ρ d) := fun K => by
          simp (disch := omega) only [fXX5_numberOf_7_4, fXX5_numberOf_7_34, cnt7 d R, nI_leI', if_neg, ea, io, obs, lit, litN, nI_ne, ce, c0, if_true, if_false, nI_add]
        obtain ⟨q, q1, q2, q3⟩ := ih (p + 1) (c + 1) n g3 (by omega) (by omega) hm'
        rw [List.filter_cons_of_pos (nz_t.mpr c0)]
        refine ⟨q + 1, by rw [List.getElem?_cons_succ]; exact q1, fun j hj => ?_, ?_⟩
        · rcases Nat.eq_zero_or_pos j with z | z
          · rw [z, List.getElem?_cons_zero]; intro h; exact ce (Option.some.inj h)
          · obtain ⟨j, rfl⟩ : ∃ k, j = k + 1 := ⟨j - 1, by omega⟩
            rw [List.getElem?_cons_succ]; exact q2 j (by omega)
        · show fXX5_numberOf_7_4 nb _ (nI e) (nI c) (nI p) (XD ρ d) = _
          rw [gen, q3]; congr 3; omega
set_option maxRecDepth 4096 in
theorem numberOf_X {nb : Nat} {V : VV} {d : Nat → Nat} {ρ : XS} {L : List Nat} (hn : nb ≤ 512) (D : DX nb V d) (R : RdL L ρ) (hL : LO nb V L) (h2 : 2 ≤ L.length) {e : Nat} (he : e ∈ itm (vdat V) L) :
    ∃ q, (itm (vdat V) L)[q]? = some e ∧ (∀ j, j < q → (itm (vdat V) L)[j]? ≠ some e) ∧ fXX5_numberOf_7 nb (nI e) (XD ρ d) = some (nI q, XD ρ d) := by
  have hr := R.2.1
  obtain ⟨m1, m2⟩ := List.mem_filter.mp he
  have hlt := (hL e (List.mem_of_mem_drop m1)).1.1
  obtain ⟨q, q1, q2, q3⟩ := number1_X hn D R hL (nz_t.mp m2) (by omega) (L.drop 2) 2 0 FU rfl h2 (by rw [List.length_drop]; unfold FU; omega) m1
  refine ⟨q, q1, q2, ?_⟩
  rw [Nat.zero_add] at q3
  simp only [fXX5_numberOf_7, fXX5_numberOf_7_0, lit, litN]
  exact q3
