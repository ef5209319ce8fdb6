set_option maxRecDepth 4096 in
theorem itm_mem {f : Nat → Nat} {L : List Nat} {y : Nat} (h : y ∈ itm f L) : y ∈ L ∧ rd4 f y ≠ 0 := by
  obtain ⟨h1, h2⟩ := List.mem_filter.mp h
  exact ⟨List.mem_of_mem_drop h1, nz_t.mp h2⟩
set_option maxRecDepth 4096 in
theorem itm_len {f : Nat → Nat} {L : List Nat} (h : L.length ≤ 2578) : (itm f L).length ≤ 2578 := by
  unfold itm
  have h1 := List.length_filter_le (nz f) (L.drop 2)
  rw [List.length_drop] at h1; omega
set_option maxRecDepth 4096 in
theorem LO_nm {nb : Nat} {V : VV} {L : List Nat} (hL : LO nb V L) {y : Nat} (h : y ∈ L) (h0 : rd4 (vdat V) y ≠ 0) : Adr nb V y ∧ y % 1024 + 8 + vdat V (y + 6) % 256 ≤ 1024 := by
  obtain ⟨a1, a2, a3, a4⟩ := hL y h
  have h4 := a4 h0
  unfold usd spc at h4; rw [if_neg h0] at h4
  exact ⟨a1, by omega⟩
set_option maxRecDepth 4096 in
theorem isTaken_M {nb : Nat} {V : VV} (A : Stc nb V) {τ : XS} {f : Nat → Nat} {w : Nat → Nat} (R : RM nb V τ f) {i s : Nat} (hs : s ≤ 255) (h12 : τ.1 12 = nI s) (hw : ∀ j, j < s → τ.2.1 17 j = nI (w j % 256)) (hi : i < 2100) (hh : τ.1 9 = nI i) (hl : live V i) (H : DS2 nb V i) (hL : LO nb V (fl V i)) :
    ((∃ a ∈ itm (vdat V) (fl V i), nmEq (vdat V) a w s) ∧ ∃ fo be se, fMX12_isTaken_0 nb (XD τ f) = some (nI 1, XD (fnd τ fo be se) f)) ∨ ((∀ a ∈ itm (vdat V) (fl V i), ¬ nmEq (vdat V) a w s) ∧ ∃ fo be se, fMX12_isTaken_0 nb (XD τ f) = some (nI 0, XD (fnd τ fo be se) f)) := by
  have hg := G_lt A.1
  have hle := itm_len (f := vdat V) H.2.1
  have key : ∃ r : Nat × Int32 × Int32 × Int32, ((r.1 = 1 ∧ ∃ a ∈ itm (vdat V) (fl V i), nmEq (vdat V) a w s) ∨ (r.1 = 0 ∧ ∀ a ∈ itm (vdat V) (fl V i), ¬ nmEq (vdat V) a w s)) ∧ ∀ u : Unit, lfix ((fun _ k4 t => fMX12_isTaken_0_4 nb k4 t.1 t.2.1 t.2.2) u) FU (nI 0, nI 0, XD (fnd τ (τ.1 10) (τ.1 11) (τ.1 13)) f) = some (nI r.1, XD (fnd τ r.2.1 r.2.2.1 r.2.2.2) f) := by
    refine lmea (κ := Unit) (fun _ k4 t => fMX12_isTaken_0_4 nb k4 t.1 t.2.1 t.2.2) (fun q : (Nat × Nat) × Int32 × Int32 × Int32 => (nI q.1.1, nI q.1.2, XD (fnd τ q.2.1 q.2.2.1 q.2.2.2) f)) (fun _ (r : Nat × Int32 × Int32 × Int32) => some (nI r.1, XD (fnd τ r.2.1 r.2.2.1 r.2.2.2) f))
      (fun q => (q.1.1 = 0 ∧ q.1.2 ≤ (itm (vdat V) (fl V i)).length ∧ ∀ j a, j < q.1.2 → (itm (vdat V) (fl V i))[j]? = some a → ¬ nmEq (vdat V) a w s) ∨ (q.1.1 = 1 ∧ ∃ a ∈ itm (vdat V) (fl V i), nmEq (vdat V) a w s)) _ (fun q => if q.1.1 = 0 then (itm (vdat V) (fl V i)).length - q.1.2 + 1 else 0) ?_ FU ((0, 0), τ.1 10, τ.1 11, τ.1 13) (.inl ⟨rfl, Nat.zero_le _, fun j a hj => by have hj : j < 0 := hj; omega⟩) (by show (if 0 = 0 then (itm (vdat V) (fl V i)).length - 0 + 1 else 0) < FU; rw [if_pos rfl]; unfold FU; omega)
    rintro ⟨⟨g, k⟩, fo, be, se⟩ hI
    have hI : (g = 0 ∧ k ≤ (itm (vdat V) (fl V i)).length ∧ ∀ j a, j < k → (itm (vdat V) (fl V i))[j]? = some a → ¬ nmEq (vdat V) a w s) ∨ (g = 1 ∧ ∃ a ∈ itm (vdat V) (fl V i), nmEq (vdat V) a w s) := hI
    rcases hI with ⟨rfl, hk, hj⟩ | ⟨rfl, hex⟩
    · have s9 : (XD (fnd τ fo be se) f).1 9 = nI i := hh
      rcases finds_M A (RM_fnd (a := fo) (b := be) (c := se) R) hi hl H (k := k) (by omega) with ⟨y, be', q1, _, q2⟩ | ⟨q1, fo', be', q2⟩
      · left
        rw [fnd_f] at q2
        have hy := itm_mem (List.mem_of_getElem? q1)
        obtain ⟨ha, hu⟩ := LO_nm hL hy.1 hy.2
        have hya := Adr_lt (by omega) ha
        have hlt := get_lt q1
        have one : fMX12_one_0 nb (nI (y + 6)) (XD (fnd τ (nI y) be' (nI k)) f) = some (nI (vdat V (y + 6) % 256), XD (fnd τ (nI y) be' (nI k)) f) := by rw [one_M nb _ f (by omega), RMd_d R ha 6 (by have := ha.2.2.2; omega)]
        have s10 : (XD (fnd τ (nI y) be' (nI k)) f).1 10 = nI y := rfl
        have s12 : (XD (fnd τ (nI y) be' (nI k)) f).1 12 = nI s := h12
        obtain ⟨r, hr, t1⟩ := isTk1_M (be := be') (se := nI k) (by omega) R hs h12 hw ha hu (k := k) (by omega)
        have hmod : vdat V (y + 6) % 256 < 256 := Nat.mod_lt _ (by omega)
        refine ⟨((r, k + 1), nI y, be', nI k), ?_, ?_, fun _ K => ?_⟩
        · rcases hr with ⟨rfl, h⟩ | ⟨rfl, h⟩
          · exact .inr ⟨rfl, y, List.mem_of_getElem? q1, h⟩
          · refine .inl ⟨rfl, hlt, fun j a h1 h2 => ?_⟩
            have h1 : j < k + 1 := h1
            by_cases e : j = k
            · subst e; rw [q1] at h2; injection h2 with h2; rw [← h2]; exact h
            · exact hj j a (by omega) h2
        · show (if r = 0 then (itm (vdat V) (fl V i)).length - (k + 1) + 1 else 0) < (if 0 = 0 then (itm (vdat V) (fl V i)).length - k + 1 else 0)
          rw [if_pos (show (0 : Nat) = 0 from rfl)]; split <;> omega
        · have t2 := t1 K
          by_cases ce : vdat V (y + 6) % 256 = s
          · rw [if_pos ce] at t2
            simp (disch := omega) only [fMX12_isTaken_0_4, lit, litN, if_true, s9, q2, obs, nI_eqI, if_neg, s10, nI_add, one, s12, ce]
            exact t2
          · rw [if_neg ce] at t2
            simp (disch := omega) only [fMX12_isTaken_0_4, lit, litN, if_true, s9, q2, obs, nI_eqI, if_neg, s10, nI_add, one, s12]
            exact t2
      · right
        rw [fnd_f] at q2
        have hge : (itm (vdat V) (fl V i)).length ≤ k := List.getElem?_eq_none_iff.mp q1
        refine ⟨(0, fo', be', nI (itm (vdat V) (fl V i)).length), .inr ⟨rfl, fun a ha => ?_⟩, fun _ K => ?_⟩
        · obtain ⟨j, hj2⟩ := List.mem_iff_getElem?.mp ha
          have hj1 := get_lt hj2
          exact hj j a (by omega) hj2
        · simp (disch := omega) only [fMX12_isTaken_0_4, lit, litN, if_true, s9, q2, obs, true_or]
    · right
      refine ⟨(1, fo, be, se), .inl ⟨rfl, hex⟩, fun _ K => ?_⟩
      simp (disch := omega) only [fMX12_isTaken_0_4, lit, litN, nI_eqI, if_neg, or_true, if_true]
  obtain ⟨⟨r, fo, be, se⟩, hr, h⟩ := key
  have h' := h ()
  rw [fnd_e] at h'
  have e : fMX12_isTaken_0 nb (XD τ f) = some (nI r, XD (fnd τ fo be se) f) := by
    simp only [fMX12_isTaken_0, fMX12_isTaken_0_0, lit, litN]
    exact h'
  have hr : (r = 1 ∧ ∃ a ∈ itm (vdat V) (fl V i), nmEq (vdat V) a w s) ∨ (r = 0 ∧ ∀ a ∈ itm (vdat V) (fl V i), ¬ nmEq (vdat V) a w s) := hr
  rcases hr with ⟨rfl, g⟩ | ⟨rfl, g⟩
  · exact .inl ⟨g, fo, be, se, e⟩
  · exact .inr ⟨g, fo, be, se, e⟩
set_option maxRecDepth 4096 in
theorem number_M {nb : Nat} {V : VV} (A : Stc nb V) {τ : XS} {f : Nat → Nat} (R : RM nb V τ f) {i e : Nat} (hi : i < 2100) (hh : τ.1 9 = nI i) (hl : live V i) (H : DS2 nb V i) (hL : LO nb V (fl V i)) (he : e ∈ itm (vdat V) (fl V i)) :
    ∃ q fo be se, (itm (vdat V) (fl V i))[q]? = some e ∧ (∀ j, j < q → (itm (vdat V) (fl V i))[j]? ≠ some e) ∧ fMX12_make_0_374 nb (nI e) (XD τ f) = some (nI q, XD (fnd (stS τ 3 (nI 0)) fo be se) f) := by
  have hg := G_lt A.1
  have hle := itm_len (f := vdat V) H.2.1
  obtain ⟨q0, hq0⟩ := List.mem_iff_getElem?.mp he
  have hea := itm_mem he
  have heb := Adr_lt (by omega) (LO_nm hL hea.1 hea.2).1
  have R0 : RM nb V (stS τ 3 (nI 0)) f := RM_S (by omega) R
  have key : ∃ r : Nat × Int32 × Int32 × Int32, ((itm (vdat V) (fl V i))[r.1]? = some e ∧ ∀ j, j < r.1 → (itm (vdat V) (fl V i))[j]? ≠ some e) ∧ ∀ u : Unit, lfix ((fun _ k382 t => fMX12_make_0_382 nb k382 t.1 t.2.1 t.2.2) u) FU (nI e, nI 0, XD (fnd (stS τ 3 (nI 0)) (τ.1 10) (τ.1 11) (τ.1 13)) f) = some (nI r.1, XD (fnd (stS τ 3 (nI 0)) r.2.1 r.2.2.1 r.2.2.2) f) := by
    refine lmea (κ := Unit) (fun _ k382 t => fMX12_make_0_382 nb k382 t.1 t.2.1 t.2.2) (fun q : Nat × Int32 × Int32 × Int32 => (nI e, nI q.1, XD (fnd (stS τ 3 (nI 0)) q.2.1 q.2.2.1 q.2.2.2) f)) (fun _ (r : Nat × Int32 × Int32 × Int32) => some (nI r.1, XD (fnd (stS τ 3 (nI 0)) r.2.1 r.2.2.1 r.2.2.2) f))
      (fun q => q.1 ≤ q0 ∧ ∀ j, j < q.1 → (itm (vdat V) (fl V i))[j]? ≠ some e) _ (fun q => q0 + 1 - q.1) ?_ FU (0, τ.1 10, τ.1 11, τ.1 13) ⟨Nat.zero_le _, fun j hj => by have hj : j < 0 := hj; omega⟩ (by show q0 + 1 - 0 < FU; have := get_lt hq0; unfold FU; omega)
    rintro ⟨k, fo, be, se⟩ ⟨h1, h2⟩
    have h1 : k ≤ q0 := h1
    have h2 : ∀ j, j < k → (itm (vdat V) (fl V i))[j]? ≠ some e := h2
    have hq := get_lt hq0
    have s9 : (XD (fnd (stS τ 3 (nI 0)) fo be se) f).1 9 = nI i := hh
    rcases finds_M A (RM_fnd (a := fo) (b := be) (c := se) R0) hi hl H (k := k) (by omega) with ⟨y, be', q1, _, q2⟩ | ⟨q1, fo', be', q2⟩
    · rw [fnd_f] at q2
      have hy := itm_mem (List.mem_of_getElem? q1)
      have hyb := Adr_lt (by omega) (LO_nm hL hy.1 hy.2).1
      have s10 : (XD (fnd (stS τ 3 (nI 0)) (nI y) be' (nI k)) f).1 10 = nI y := rfl
      by_cases c : y = e
      · right
        subst c
        refine ⟨(k, nI y, be', nI k), ⟨q1, h2⟩, fun _ K => ?_⟩
        simp (disch := omega) only [fMX12_make_0_382, lit, litN, s9, q2, obs, nI_eqI, if_neg, s10, if_true]
      · left
        have hne : k ≠ q0 := fun h => by rw [h, hq0] at q1; injection q1 with q1; exact c q1.symm
        refine ⟨(k + 1, nI y, be', nI k), ⟨by show k + 1 ≤ q0; omega, fun j hj => ?_⟩, by show q0 + 1 - (k + 1) < q0 + 1 - k; omega, fun _ K => ?_⟩
        · have hj : j < k + 1 := hj
          by_cases ej : j = k
          · subst ej; rw [q1]; intro h; injection h with h; exact c h
          · exact h2 j (by omega)
        · simp (disch := omega) only [fMX12_make_0_382, lit, litN, s9, q2, obs, nI_eqI, if_neg, s10, nI_add]
    · have hge : (itm (vdat V) (fl V i)).length ≤ k := List.getElem?_eq_none_iff.mp q1
      omega
  obtain ⟨⟨r, fo, be, se⟩, ⟨r1, r2⟩, h⟩ := key
  have h' := h ()
  have ef : fnd (stS τ 3 (nI 0)) (τ.1 10) (τ.1 11) (τ.1 13) = stS τ 3 (nI 0) := fnd_e (stS τ 3 (nI 0))
  rw [ef] at h'
  refine ⟨r, fo, be, se, r1, r2, ?_⟩
  simp only [fMX12_make_0_374, lit, litN, XD_S]
  exact h'
-- clearing an inode
def clrA (τ : XS) (i : Nat) : XS := stA (stA (stA (stA (stA (stA (stA (stA τ 7 i (nI 0)) 8 i (nI 0)) 9 i (nI 0)) 10 i (nI 0)) 11 i (nI 0)) 12 i (nI 0)) 13 i (nI 0)) 14 i (nI 0)
def clrM (τ : XS) (i : Nat) : XS := stL (stL (stL (clrA τ i) 0 (3 * i) 0) 0 (3 * i + 1) 0) 0 (3 * i + 2) 0
set_option maxRecDepth 4096 in
theorem XD_L (σ : XS) (d : Nat → Nat) (k i : Nat) (v : Int64) : stL (XD σ d) k i v = XD (stL σ k i v) d := rfl
set_option maxRecDepth 4096 in
theorem clear_M (nb : Nat) (τ : XS) (f : Nat → Nat) {i : Nat} (hi : i < 2100) : fMX12_clear_0 nb (nI i) (XD τ f) = some (XD (clrM τ i) f) := by
  have s0 : ∀ K ρ, fMX12_clear_0_58 nb K (nI i) (nI 0) (XD ρ f) = K (nI i, nI 1, XD (stL ρ 0 (3 * i) 0) f) := fun K ρ => by
    have e3 : (3 : Int32) = nI 3 := lit 3
    have e1 : (1 : Int32) = nI 1 := lit 1
    have e0 : (0 : Int32) = nI 0 := lit 0
    simp (disch := omega) only [fMX12_clear_0_58, e3, e1, e0, nI_mul, nI_add, nI_ltI', nI_leI', nI_eqI, nI_clampI, n_or, if_neg, XD_L, Nat.zero_add, Nat.add_zero]
  have s1 : ∀ K ρ, fMX12_clear_0_58 nb K (nI i) (nI 1) (XD ρ f) = K (nI i, nI 2, XD (stL ρ 0 (3 * i + 1) 0) f) := fun K ρ => by
    have e3 : (3 : Int32) = nI 3 := lit 3
    have e1 : (1 : Int32) = nI 1 := lit 1
    have e0 : (0 : Int32) = nI 0 := lit 0
    simp (disch := omega) only [fMX12_clear_0_58, e3, e1, e0, nI_mul, nI_add, nI_ltI', nI_leI', nI_eqI, nI_clampI, n_or, if_neg, XD_L]
  have s2 : ∀ K ρ, fMX12_clear_0_58 nb K (nI i) (nI 2) (XD ρ f) = K (nI i, nI 3, XD (stL ρ 0 (3 * i + 2) 0) f) := fun K ρ => by
    have e3 : (3 : Int32) = nI 3 := lit 3
    have e1 : (1 : Int32) = nI 1 := lit 1
    have e0 : (0 : Int32) = nI 0 := lit 0
    simp (disch := omega) only [fMX12_clear_0_58, e3, e1, e0, nI_mul, nI_add, nI_ltI', nI_leI', nI_eqI, nI_clampI, n_or, if_neg, XD_L]
  have s3 : ∀ K ρ, fMX12_clear_0_58 nb K (nI i) (nI 3) (XD ρ f) = some (XD ρ f) := fun K ρ => by
    have e3 : (3 : Int32) = nI 3 := lit 3
    simp (disch := omega) only [fMX12_clear_0_58, e3, nI_ltI', nI_leI', nI_eqI, nI_clampI, if_pos]
  have e0 : (0 : Int32) = nI 0 := lit 0
  simp (disch := omega) only [fMX12_clear_0, fMX12_clear_0_0, e0, nI_ltI', nI_leI', nI_eqI, nI_clampI, n_or, if_neg, XD_A]
  rw [lf2, s0, s1]
  rw [show (1099511627774 : Nat) = 1099511627772 + 1 + 1 from rfl, lf2n, s2, s3]
  rfl
def clrV (V : VV) (i : Nat) : VV := setA (setA (setA (setA (setA V 4 i 0) 5 i 0) 16 (3 * i) 0) 16 (3 * i + 1) 0) 16 (3 * i + 2) 0
set_option maxRecDepth 4096 in
theorem stL_at (τ : XS) (i : Nat) (v : Int64) (x : Nat) : (stL τ 0 i v).2.2 0 x = if x = i then v else τ.2.2 0 x := by
  show va_up τ.2.2 0 (vp_updL (τ.2.2 0) i v) 0 x = _
  rw [va_up_self]; rfl
set_option maxRecDepth 4096 in
theorem RM_clr {nb : Nat} {V : VV} {τ : XS} {f : Nat → Nat} (R : RM nb V τ f) {i : Nat} (z1 : vmn V i = 0) (z2 : vsg V i = 0) (z3 : vdb V i = 0) (z4 : vrn V i = 0) : RM nb (clrV V i) (clrM τ i) f := by
  obtain ⟨r1, r2, r3, r4, r5, r6, r7, r8, r9⟩ := R
  refine ⟨r1, r2, fun j hj => ?_, fun j hj lj hm => ?_, r5, fun x hx => ?_, r7, r8, r9⟩
  · obtain ⟨s1, s2, s3, s4, s5, s6, s7, s8⟩ := r3 j hj
    have e4 : vsz (clrV V i) j = if j = i then 0 else vsz V j := by
      show (setA V 4 i 0).2.1 4 j = _
      by_cases c : j = i
      · rw [if_pos c, c, setA_e]
      · rw [if_neg c, setA_n _ _ _ c]
    have e5 : vlk (clrV V i) j = if j = i then 0 else vlk V j := by
      show (setA (setA V 4 i 0) 5 i 0).2.1 5 j = _
      by_cases c : j = i
      · rw [if_pos c, c, setA_e]
      · rw [if_neg c, setA_n _ _ _ c]; rfl
    have at0 : ∀ k, (7 ≤ k ∧ k ≤ 14) → (clrM τ i).2.1 k j = if j = i then nI 0 else τ.2.1 k j := fun k hk => by
      show (clrA τ i).2.1 k j = _
      unfold clrA
      simp only [stA_at]
      by_cases c : j = i
      · simp only [c, and_true, if_true]
        rcases (show k = 7 ∨ k = 8 ∨ k = 9 ∨ k = 10 ∨ k = 11 ∨ k = 12 ∨ k = 13 ∨ k = 14 by omega) with rfl | rfl | rfl | rfl | rfl | rfl | rfl | rfl <;> rfl
      · simp only [c, and_false, if_false]
    rw [at0 7 (by omega), at0 8 (by omega), at0 9 (by omega), at0 12 (by omega), at0 13 (by omega), at0 10 (by omega), at0 14 (by omega), e4, e5]
    by_cases c : j = i
    · subst c
      simp only [if_true]
      have ef : fst0 (clrV V j) j = 0 := by show (if vmn V j = 0 then 0 else vbl V j 0) = 0; rw [if_pos z1]
      have ea : far0 (clrV V j) j = 0 := by show (if vrn V j = 0 then 0 else vrw V j 0) = 0; rw [if_pos z4]
      rw [ef, ea]
      refine ⟨s1, trivial, trivial, ?_, ?_, ?_, rfl, rfl⟩
      · show nI 0 = nI (vmn V j); rw [z1]
      · show nI 0 = nI (vsg V j); rw [z2]
      · show nI 0 = nI (vdb V j); rw [z3]
    · simp only [c, if_false]
      exact ⟨s1, s2, s3, s4, s5, s6, s7, s8⟩
  · have hne : j ≠ i := fun e => by
      have hm : 1 ≤ vmn V j := hm
      rw [e, z1] at hm; omega
    show (clrA τ i).2.1 11 j = _
    unfold clrA
    simp only [stA_at, hne, and_false, if_false]
    exact r4 j hj lj hm
  · show (stL (stL (stL (clrA τ i) 0 (3 * i) 0) 0 (3 * i + 1) 0) 0 (3 * i + 2) 0).2.2 0 x = Int64.ofNat ((setA (setA (setA (setA (setA V 4 i 0) 5 i 0) 16 (3 * i) 0) 16 (3 * i + 1) 0) 16 (3 * i + 2) 0).2.1 16 x)
    rw [stL_at, stL_at, stL_at]
    by_cases c2 : x = 3 * i + 2
    · rw [if_pos c2, c2, setA_e]; rfl
    · rw [if_neg c2, setA_n _ _ _ c2]
      by_cases c1 : x = 3 * i + 1
      · rw [if_pos c1, c1, setA_e]; rfl
      · rw [if_neg c1, setA_n _ _ _ c1]
        by_cases c0 : x = 3 * i
        · rw [if_pos c0, c0, setA_e]; rfl
        · rw [if_neg c0, setA_n _ _ _ c0]; exact r6 x hx
set_option maxRecDepth 4096 in
theorem clrM_k (τ : XS) (i : Nat) : (clrM τ i).1 = τ.1 ∧ ∀ k, (k < 7 ∨ 14 < k) → (clrM τ i).2.1 k = τ.2.1 k := by
  refine ⟨rfl, fun k hk => ?_⟩
  show (clrA τ i).2.1 k = _
  unfold clrA
  rw [stA_k _ _ _ _ (by omega), stA_k _ _ _ _ (by omega), stA_k _ _ _ _ (by omega), stA_k _ _ _ _ (by omega), stA_k _ _ _ _ (by omega), stA_k _ _ _ _ (by omega), stA_k _ _ _ _ (by omega), stA_k _ _ _ _ (by omega)]
