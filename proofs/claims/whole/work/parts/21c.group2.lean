set_option maxRecDepth 4096 in
theorem XI_bit (τ : XS) (g f : Nat → Nat) {a v t : Nat} (hv : g a = v) (h : v < 256) (ht : t < 8) : stA (XD (XI τ g) f) 1 a (vp_nar .byte (((XD (XI τ g) f).2.1 1 a ||| (nI 1 <<< (nI t &&& nI 31)).toInt8.toInt32).toInt8.toInt32)) = XD (XI τ (wr1 g a (orv v t))) f := by
  rw [show (XD (XI τ g) f).2.1 1 a = sb (g a) from rfl, hv, orB h ht, nar_sb, XI_put]
set_option maxRecDepth 4096 in
theorem sg97 {nb : Nat} {τ : XS} {f gA gB gC : Nat → Nat} {x b c1 c2 c3 k u v : Nat} (K : (Int32 × Int32 × Int32 × Int32 × Int32 × Int32 × XS) → Option XS) (hk : k < 8192) (hb : b + 1 < 512) (hu : u ≤ 1) (hv : v ≤ 1) (lA : gA (1024 * b + k / 8) < 256) (lB : gB (1024 * b + 1024 + k / 8) < 256)
    (e1 : (if u = 0 then gA else wr1 gA (1024 * b + k / 8) (orv (gA (1024 * b + k / 8)) (k % 8))) = gB) (e2 : (if v = 0 then gB else wr1 gB (1024 * b + 1024 + k / 8) (orv (gB (1024 * b + 1024 + k / 8)) (k % 8))) = gC) :
    fMX12_showGroup_0_97 nb K (nI x) (nI (1024 * b)) (nI c1) (nI c2) (nI c3) (nI k) (nI u) (nI v) (XD (XI τ gA) f) = fMX12_showGroup_0_173 nb K (nI x) (nI (1024 * b)) (nI (c1 + (1 - u))) (nI (c2 + (1 - v))) (nI c3) (nI k) (XD (XI τ gC) f) := by
  have b1 := XI_bit τ gA f (a := 1024 * b + k / 8) rfl lA (t := k % 8) (by omega)
  have b2 := XI_bit τ gB f (a := 1024 * b + 1024 + k / 8) rfl lB (t := k % 8) (by omega)
  have s134 : fMX12_showGroup_0_134 nb K (nI x) (nI (1024 * b)) (nI (c1 + (1 - u))) (nI c2) (nI c3) (nI k) (nI v) (XD (XI τ gB) f) = fMX12_showGroup_0_173 nb K (nI x) (nI (1024 * b)) (nI (c1 + (1 - u))) (nI (c2 + (1 - v))) (nI c3) (nI k) (XD (XI τ gC) f) := by
    by_cases c : v = 0
    · rw [if_pos c] at e2
      subst c
      subst e2
      simp only [fMX12_showGroup_0_134, lit, litN, if_true, nI_add]
    · rw [if_neg c] at e2
      have : v = 1 := by omega
      subst this
      simp (disch := omega) only [fMX12_showGroup_0_134, lit, litN, nI10, if_false, nI_add, nI_div, nI_mul, nI_sub_dm, n_sdm, nI_sub, nI_ltI', nI_leI', nI_eqI, nI_clampI, n_or, if_neg, b2]
      rw [e2, Nat.sub_self, Nat.add_zero]
  by_cases c : u = 0
  · rw [if_pos c] at e1
    subst c
    subst e1
    rw [← s134]
    simp only [fMX12_showGroup_0_97, lit, litN, if_true, nI_add]
  · rw [if_neg c] at e1
    have : u = 1 := by omega
    subst this
    rw [← s134]
    simp (disch := omega) only [fMX12_showGroup_0_97, lit, litN, nI10, if_false, nI_add, nI_div, nI_mul, nI_sub_dm, n_sdm, nI_sub, nI_ltI', nI_leI', nI_eqI, nI_clampI, n_or, if_neg, b1]
    rw [e1]; rfl
set_option maxRecDepth 4096 in
theorem sg62 {nb : Nat} {V : VV} (Bs : Bas nb V) (h4 : ∀ i, vkd V i < 4) {s : XS} {x k u c1 c2 c3 m : Nat} (hx : x < vQ V) (hk : k < 8192) (s5 : s.1 5 = nI (vG V)) (s6 : ∀ i, i < 2100 → s.2.1 6 i = nI (vkd V i)) (K : (Int32 × Int32 × Int32 × Int32 × Int32 × Int32 × XS) → Option XS) :
    fMX12_showGroup_0_62 nb K (nI x) (nI m) (nI c1) (nI c2) (nI c3) (nI k) (nI u) s = fMX12_showGroup_0_97 nb K (nI x) (nI m) (nI c1) (nI c2) (nI c3) (nI k) (nI u) (nI (ui V x k)) s ∧
    fMX12_showGroup_0_173 nb K (nI x) (nI m) (nI c1) (nI c2) (nI c3) (nI k) s = K (nI x, nI m, nI c1, nI c2, nI (c3 + (if k < vG V then pdc V (x * vG V + k + 1) else 0)), nI (k + 1), s) := by
  have hg := G_lt Bs
  have hxG : k < vG V → x * vG V + k + 1 ≤ vQ V * vG V := fun q => by
    have : (x + 1) * vG V ≤ vQ V * vG V := Nat.mul_le_mul_right _ hx
    rw [Nat.succ_mul] at this; omega
  by_cases c : vG V ≤ k
  · have e : ui V x k = 1 := by unfold ui; rw [if_pos (.inl c)]
    rw [e, if_neg (by omega)]
    constructor
    · simp (disch := omega) only [fMX12_showGroup_0_62, fMX12_showGroup_0_92, s5, lit, litN, nI_ltI', nI_leI', nI_eqI, nI_clampI, if_pos]
    · simp (disch := omega) only [fMX12_showGroup_0_173, fMX12_showGroup_0_208, fMX12_showGroup_0_209, s5, lit, litN, nI_ltI', nI_leI', nI_eqI, nI_clampI, if_pos, nI_add]
  · have hq := hxG (by omega)
    have h6 := s6 (x * vG V + k + 1) (by omega)
    have h44 := h4 (x * vG V + k + 1)
    rw [if_pos (by omega)]
    constructor
    · by_cases c2 : vkd V (x * vG V + k + 1) = 0
      · have e : ui V x k = 0 := by unfold ui; rw [if_neg (by omega)]
        rw [c2] at h6
        rw [e]
        simp (disch := omega) only [fMX12_showGroup_0_62, fMX12_showGroup_0_92, s5, lit, litN, nI_mul, nI_add, nI_ltI', nI_leI', nI_eqI, nI_clampI, n_or, if_neg, h6, if_true]
      · have e : ui V x k = 1 := by unfold ui; rw [if_pos (.inr c2)]
        rw [e]
        simp (disch := omega) only [fMX12_showGroup_0_62, fMX12_showGroup_0_92, s5, lit, litN, nI_mul, nI_add, nI_ltI', nI_leI', nI_eqI, nI_clampI, n_or, if_neg, h6]
    · by_cases c2 : vkd V (x * vG V + k + 1) = 2
      · have e : pdc V (x * vG V + k + 1) = 1 := by unfold pdc; rw [if_pos c2]
        rw [c2] at h6
        rw [e]
        simp (disch := omega) only [fMX12_showGroup_0_173, fMX12_showGroup_0_208, fMX12_showGroup_0_209, s5, lit, litN, nI_mul, nI_add, nI_ltI', nI_leI', nI_eqI, nI_clampI, n_or, if_neg, h6, if_true]
      · have e : pdc V (x * vG V + k + 1) = 0 := by unfold pdc; rw [if_neg c2]
        rw [e]
        simp (disch := omega) only [fMX12_showGroup_0_173, fMX12_showGroup_0_208, fMX12_showGroup_0_209, s5, lit, litN, nI_mul, nI_add, nI_ltI', nI_leI', nI_eqI, nI_clampI, n_or, if_neg, h6]
set_option maxRecDepth 4096 in
theorem sg23 {nb : Nat} {V : VV} (Bs : Bas nb V) {s : XS} {x k : Nat} {m c1 c2 c3 : Int32} (hx : x < vQ V) (hk : k < 8192) (s4 : s.1 4 = nI (vP V)) (s7 : s.1 7 = nI (vQ V)) (su : ∀ b, 1 ≤ b → b < 512 → s.2.1 4 b = if vot V b = 0 then nI 0 else nI 1) (K : (Int32 × Int32 × Int32 × Int32 × Int32 × Int32 × XS) → Option XS) :
    fMX12_showGroup_0_23 nb K (nI x) m c1 c2 c3 (nI k) s = fMX12_showGroup_0_62 nb K (nI x) m c1 c2 c3 (nI k) (nI (ub V x k)) s := by
  have hg := G_lt Bs
  have hgr := Bs.1.grp hx
  have bg := begin_M nb s4 x
  obtain ⟨rm, hrm2, hrm, h1, h2⟩ : ∃ rm, rm < 3000 ∧ fMX12_room_0 nb (nI x) s = some (nI rm, s) ∧ (rm ≤ k → ub V x k = 1) ∧ (k < rm → 1 + x * vP V + k < nb ∧ k < vP V) := by
    by_cases c : vQ V - 1 ≤ x
    · refine ⟨nb - (1 + x * vP V), by omega, ?_, fun q => ?_, fun q => ?_⟩
      · simp (disch := omega) only [fMX12_room_0, fMX12_room_0_0, s7, lit, litN, nI_sub, nI_ltI', nI_leI', nI_eqI, nI_clampI, if_pos, bg, obs]
      · unfold ub
        rw [if_pos]
        rcases Nat.lt_or_ge k (vP V) with q2 | q2
        · right; rw [Bs.2.2.2 _ (by omega)]; omega
        · exact .inl q2
      · have hl := Bs.1.2.2.2.2.2.2.1
        have : vQ V * vP V = x * vP V + vP V := by rw [show vQ V = x + 1 by omega, Nat.succ_mul]
        omega
    · refine ⟨vP V, by omega, ?_, fun q => ?_, fun q => ⟨?_, q⟩⟩
      · simp (disch := omega) only [fMX12_room_0, fMX12_room_0_0, s7, lit, litN, nI_sub, nI_ltI', nI_leI', nI_eqI, nI_clampI, if_neg, s4]
      · unfold ub; rw [if_pos (.inl q)]
      · have := Bs.1.grp (x := x + 1) (by omega)
        rw [Nat.succ_mul] at this; omega
  by_cases c : rm ≤ k
  · rw [h1 c]
    have : rm < 8192 := by omega
    simp (disch := omega) only [fMX12_showGroup_0_23, fMX12_showGroup_0_57, lit, litN, nI_ltI', nI_leI', nI_eqI, nI_clampI, if_neg, hrm, obs, if_pos]
  · obtain ⟨q1, q2⟩ := h2 (by omega)
    have hu := su (1 + x * vP V + k) (by omega) (by omega)
    by_cases c2 : vot V (1 + x * vP V + k) = 0
    · have e : ub V x k = 0 := by unfold ub; rw [if_neg (by omega)]
      rw [if_pos c2] at hu
      rw [e]
      simp (disch := omega) only [fMX12_showGroup_0_23, fMX12_showGroup_0_57, lit, litN, nI_ltI', nI_leI', nI_eqI, nI_clampI, if_neg, hrm, obs, bg, nI_add, n_or, hu, if_true]
    · have e : ub V x k = 1 := by unfold ub; rw [if_pos (.inr c2)]
      rw [if_neg c2] at hu
      rw [e]
      simp (disch := omega) only [fMX12_showGroup_0_23, fMX12_showGroup_0_57, lit, litN, nI_ltI', nI_leI', nI_eqI, nI_clampI, if_neg, hrm, obs, bg, nI_add, n_or, hu]
