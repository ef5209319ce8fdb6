def nmM (τ : XS) (w : Nat → Nat) (x : Nat) : XS := (τ.1, va_up τ.2.1 17 (fun k => if k < x then nI (w k % 256) else τ.2.1 17 k), τ.2.2)
set_option maxRecDepth 4096 in
theorem nmM_0 (τ : XS) (w : Nat → Nat) : nmM τ w 0 = τ := by
  refine XS_ext rfl (fun k x => ?_) rfl
  show va_up τ.2.1 17 _ k x = τ.2.1 k x
  by_cases h : k = 17
  · subst h; rw [va_up_self, if_neg (by omega)]
  · rw [va_up_ne _ _ h]
set_option maxRecDepth 4096 in
theorem nmM_s (τ : XS) (w : Nat → Nat) (x : Nat) : stA (nmM τ w x) 17 x (nI (w x % 256)) = nmM τ w (x + 1) := by
  refine XS_ext rfl (fun k y => ?_) rfl
  rw [stA_at]
  by_cases h : k = 17
  · subst h
    show (if 17 = 17 ∧ y = x then nI (w x % 256) else if y < x then nI (w y % 256) else τ.2.1 17 y) = if y < x + 1 then nI (w y % 256) else τ.2.1 17 y
    by_cases c : y = x
    · rw [if_pos ⟨rfl, c⟩, c, if_pos (by omega)]
    · rw [if_neg (fun e => c e.2)]
      by_cases c2 : y < x
      · rw [if_pos c2, if_pos (by omega)]
      · rw [if_neg c2, if_neg (by omega)]
  · rw [if_neg (fun e => h e.1)]
    show va_up τ.2.1 17 _ k y = va_up τ.2.1 17 _ k y
    rw [va_up_ne _ _ h, va_up_ne _ _ h]
set_option maxRecDepth 4096 in
theorem nmM_k (τ : XS) (w : Nat → Nat) (x : Nat) {k : Nat} (h : k ≠ 17) : (nmM τ w x).2.1 k = τ.2.1 k := va_up_ne _ _ h
set_option maxRecDepth 4096 in
theorem nmM_17 (τ : XS) (w : Nat → Nat) (x k : Nat) (h : k < x) : (nmM τ w x).2.1 17 k = nI (w k % 256) := by
  show (if k < x then nI (w k % 256) else τ.2.1 17 k) = _; rw [if_pos h]
set_option maxRecDepth 4096 in
theorem named_M {nb : Nat} {τ : XS} (f : Nat → Nat) {w : Nat → Nat} {t n : Nat} (ht : t ≤ 4096) (h1 : τ.1 1 = nI t) (hw : ∀ k, k < 4096 → τ.2.1 2 k = sb (w k)) (hn : n = if t ≤ 255 then t else 0) :
    (nmOK w t ∧ fMX12_named_0 nb (XD τ f) = some (nI 1, XD (stS (nmM (stS τ 12 (nI n)) w n) 1 (nI 0)) f)) ∨ (¬ nmOK w t ∧ fMX12_named_0 nb (XD τ f) = some (nI 0, XD (stS (nmM (stS τ 12 (nI n)) w n) 1 (nI 0)) f)) := by
  have hn255 : n ≤ 255 := by rw [hn]; split <;> omega
  have e12 : ∀ x, (XD (nmM (stS τ 12 (nI n)) w x) f).1 12 = nI n := fun x => stS_e τ 12 (nI n)
  have x2 : ∀ x, x < 4096 → (XD (nmM (stS τ 12 (nI n)) w x) f).2.1 2 x = sb (w x) := fun x hx => by
    rw [XD_k _ _ _ _ (by omega), nmM_k _ _ _ (by omega)]; exact hw x hx
  have x17 : ∀ x k, k < x → (XD (nmM (stS τ 12 (nI n)) w x) f).2.1 17 k = nI (w k % 256) := fun x k hk => by
    rw [XD_k _ _ _ _ (by omega), nmM_17 _ _ _ _ hk]
  have y17 : ∀ x k, k < x → (XD (stS (nmM (stS τ 12 (nI n)) w x) 1 (nI 0)) f).2.1 17 k = nI (w k % 256) := fun x k hk => by
    rw [XD_k _ _ _ _ (by omega)]; show (nmM (stS τ 12 (nI n)) w x).2.1 17 k = _; rw [nmM_17 _ _ _ _ hk]
  have key : ∀ g0, (g0 = 0 ∧ ¬ 1 ≤ n ∨ g0 = 1 ∧ 1 ≤ n) → ∃ r : Nat, ((r = 1 ∧ nmOK w n) ∨ (r = 0 ∧ ¬ nmOK w n)) ∧ ∀ u : Unit, lfix ((fun _ k37 t => fMX12_named_0_37 nb k37 t.1 t.2.1 t.2.2) u) FU (nI g0, nI 0, XD (nmM (stS τ 12 (nI n)) w 0) f) = some (nI r, XD (stS (nmM (stS τ 12 (nI n)) w n) 1 (nI 0)) f) := by
    intro g0 hg0
    refine lmea (κ := Unit) (fun _ k37 t => fMX12_named_0_37 nb k37 t.1 t.2.1 t.2.2) (fun q : Nat × Nat => (nI q.1, nI q.2, XD (nmM (stS τ 12 (nI n)) w q.2) f)) (fun _ (r : Nat) => some (nI r, XD (stS (nmM (stS τ 12 (nI n)) w n) 1 (nI 0)) f)) (fun q => q.2 ≤ n ∧ (q.1 = 0 ∧ ¬ (1 ≤ n ∧ ∀ j, j < q.2 → w j % 256 ≠ 0 ∧ w j % 256 ≠ 47) ∨ q.1 = 1 ∧ (1 ≤ n ∧ ∀ j, j < q.2 → w j % 256 ≠ 0 ∧ w j % 256 ≠ 47))) _ (fun q => n - q.2) ?_ FU (g0, 0) ⟨Nat.zero_le _, ?_⟩ (by show n - 0 < FU; unfold FU; omega)
    · rintro ⟨g, x⟩ ⟨h2, h3⟩
      have h2 : x ≤ n := h2
      have h3 : g = 0 ∧ ¬ (1 ≤ n ∧ ∀ j, j < x → w j % 256 ≠ 0 ∧ w j % 256 ≠ 47) ∨ g = 1 ∧ (1 ≤ n ∧ ∀ j, j < x → w j % 256 ≠ 0 ∧ w j % 256 ≠ 47) := h3
      by_cases c : x = n
      · right
        subst c
        rcases h3 with ⟨rfl, g3⟩ | ⟨rfl, g3, g4⟩
        · refine ⟨0, .inr ⟨rfl, fun h => g3 ⟨h.1, h.2.2.1⟩⟩, fun _ K => ?_⟩
          simp (disch := omega) only [fMX12_named_0_37, e12, lit, litN, nI_ltI', nI_leI', nI_eqI, nI_clampI, if_pos, if_true, XD_S]
        · have y0 := y17 x 0 g3
          have lt0 : w 0 % 256 < 256 := Nat.mod_lt _ (by omega)
          by_cases d0 : w 0 % 256 = 46
          · by_cases e1 : x = 1
            · refine ⟨0, .inr ⟨rfl, fun h => h.2.2.2 ⟨d0, .inl e1⟩⟩, fun _ K => ?_⟩
              simp (disch := omega) only [fMX12_named_0_37, e12, lit, litN, nI_ltI', nI_leI', nI_eqI, nI_clampI, n_or, if_pos, if_neg, XD_S, y0, d0, if_true]
            · by_cases e2 : x = 2
              · have y1 := y17 x 1 (by omega)
                by_cases d1 : w 1 % 256 = 46
                · refine ⟨0, .inr ⟨rfl, fun h => h.2.2.2 ⟨d0, .inr ⟨e2, d1⟩⟩⟩, fun _ K => ?_⟩
                  simp (disch := omega) only [fMX12_named_0_37, e12, lit, litN, nI_ltI', nI_leI', nI_eqI, nI_clampI, n_or, if_pos, if_neg, XD_S, y0, y1, d0, d1, if_true]
                · refine ⟨1, .inl ⟨rfl, g3, hn255, g4, fun h => by omega⟩, fun _ K => ?_⟩
                  simp (disch := omega) only [fMX12_named_0_37, fMX12_named_0_144, e12, lit, litN, nI_ltI', nI_leI', nI_eqI, nI_clampI, n_or, if_pos, if_neg, XD_S, y0, y1, d0, if_true]
              · refine ⟨1, .inl ⟨rfl, g3, hn255, g4, fun h => by omega⟩, fun _ K => ?_⟩
                simp (disch := omega) only [fMX12_named_0_37, fMX12_named_0_144, e12, lit, litN, nI_ltI', nI_leI', nI_eqI, nI_clampI, n_or, if_pos, if_neg, XD_S, y0, d0, if_true]
          · refine ⟨1, .inl ⟨rfl, g3, hn255, g4, fun h => by omega⟩, fun _ K => ?_⟩
            simp (disch := omega) only [fMX12_named_0_37, fMX12_named_0_144, e12, lit, litN, nI_ltI', nI_leI', nI_eqI, nI_clampI, n_or, if_pos, if_neg, XD_S, y0]
      · left
        have hx : x < n := by omega
        have v := x2 x (by omega)
        have st : stA (XD (nmM (stS τ 12 (nI n)) w x) f) 17 x (nI (w x % 256)) = XD (nmM (stS τ 12 (nI n)) w (x + 1)) f := by rw [XD_A _ _ _ _ (by omega), nmM_s]
        have v17 := x17 (x + 1) x (by omega)
        have lt0 : w x % 256 < 256 := Nat.mod_lt _ (by omega)
        rcases h3 with ⟨rfl, g3⟩ | ⟨rfl, g3, g4⟩
        · refine ⟨(0, x + 1), ⟨hx, .inl ⟨rfl, fun h => g3 ⟨h.1, fun j hj => h.2 j (by show j < x + 1; omega)⟩⟩⟩, by show n - (x + 1) < n - x; omega, fun _ K => ?_⟩
          simp (disch := omega) only [fMX12_named_0_37, fMX12_named_0_89, fMX12_named_0_90, e12, lit, litN, nI_ltI', nI_leI', nI_eqI, nI_clampI, n_or, if_neg, if_true, v, sb_and, st, nI_add]
        · by_cases z0 : w x % 256 = 0
          · refine ⟨(0, x + 1), ⟨hx, .inl ⟨rfl, fun h => (h.2 x (by show x < x + 1; omega)).1 z0⟩⟩, by show n - (x + 1) < n - x; omega, fun _ K => ?_⟩
            simp (disch := omega) only [fMX12_named_0_37, fMX12_named_0_89, fMX12_named_0_90, e12, lit, litN, nI_ltI', nI_leI', nI_eqI, nI_clampI, n_or, if_neg, v, sb_and, st, v17, nI_add, if_pos]
          · by_cases z1 : w x % 256 = 47
            · refine ⟨(0, x + 1), ⟨hx, .inl ⟨rfl, fun h => (h.2 x (by show x < x + 1; omega)).2 z1⟩⟩, by show n - (x + 1) < n - x; omega, fun _ K => ?_⟩
              simp (disch := omega) only [fMX12_named_0_37, fMX12_named_0_89, fMX12_named_0_90, e12, lit, litN, nI_ltI', nI_leI', nI_eqI, nI_clampI, n_or, if_neg, v, sb_and, st, v17, nI_add, if_pos]
            · refine ⟨(1, x + 1), ⟨hx, .inr ⟨rfl, g3, fun j hj => ?_⟩⟩, by show n - (x + 1) < n - x; omega, fun _ K => ?_⟩
              · have hj : j < x + 1 := hj
                by_cases e : j = x
                · subst e; exact ⟨z0, z1⟩
                · exact g4 j (by omega)
              · simp (disch := omega) only [fMX12_named_0_37, fMX12_named_0_89, fMX12_named_0_90, e12, lit, litN, nI_ltI', nI_leI', nI_eqI, nI_clampI, n_or, if_neg, v, sb_and, st, v17, nI_add]
    · show g0 = 0 ∧ ¬ (1 ≤ n ∧ ∀ j, j < 0 → _) ∨ g0 = 1 ∧ (1 ≤ n ∧ ∀ j, j < 0 → _)
      rcases hg0 with ⟨a, b⟩ | ⟨a, b⟩
      · exact .inl ⟨a, fun h => b h.1⟩
      · exact .inr ⟨a, b, fun j hj => by omega⟩
  have s1 : (XD τ f).1 1 = nI t := h1
  have done : ∃ r : Nat, ((r = 1 ∧ nmOK w n) ∨ (r = 0 ∧ ¬ nmOK w n)) ∧ fMX12_named_0 nb (XD τ f) = some (nI r, XD (stS (nmM (stS τ 12 (nI n)) w n) 1 (nI 0)) f) := by
    by_cases c : t ≤ 255
    · rw [if_pos c] at hn; subst hn
      by_cases c0 : n = 0
      · obtain ⟨r, k1, k2⟩ := key 0 (.inl ⟨rfl, by omega⟩)
        have k3 := k2 ()
        rw [nmM_0] at k3
        refine ⟨r, k1, ?_⟩
        simp (disch := omega) only [fMX12_named_0, fMX12_named_0_0, fMX12_named_0_19, fMX12_named_0_34, s1, lit, litN, nI_ltI', nI_leI', nI_eqI, nI_clampI, if_pos, XD_S]
        exact k3
      · obtain ⟨r, k1, k2⟩ := key 1 (.inr ⟨rfl, by omega⟩)
        have k3 := k2 ()
        rw [nmM_0] at k3
        refine ⟨r, k1, ?_⟩
        simp (disch := omega) only [fMX12_named_0, fMX12_named_0_0, fMX12_named_0_19, fMX12_named_0_34, s1, lit, litN, nI_ltI', nI_leI', nI_eqI, nI_clampI, if_pos, if_neg, XD_S]
        exact k3
    · rw [if_neg c] at hn; subst hn
      obtain ⟨r, k1, k2⟩ := key 0 (.inl ⟨rfl, by omega⟩)
      have k3 := k2 ()
      rw [nmM_0] at k3
      refine ⟨r, k1, ?_⟩
      rw [nmM_0]
      simp (disch := omega) only [fMX12_named_0, fMX12_named_0_0, fMX12_named_0_19, fMX12_named_0_34, s1, lit, litN, nI_ltI', nI_leI', nI_eqI, nI_clampI, if_pos, if_neg, XD_S]
      exact k3
  obtain ⟨r, hr, h⟩ := done
  have hok : nmOK w n ↔ nmOK w t := by
    by_cases c : t ≤ 255
    · rw [if_pos c] at hn; rw [hn]
    · rw [if_neg c] at hn
      constructor
      · intro h; have := h.1; omega
      · intro h; have := h.2.1; omega
  rcases hr with ⟨rfl, g⟩ | ⟨rfl, g⟩
  · exact .inl ⟨hok.mp g, h⟩
  · exact .inr ⟨fun e => g (hok.mpr e), h⟩
set_option maxRecDepth 4096 in
theorem isTk1_M {nb : Nat} {V : VV} {τ : XS} {f : Nat → Nat} {w : Nat → Nat} (hn : nb ≤ 512) (R : RM nb V τ f) {y s k : Nat} {be se : Int32} (hs : s ≤ 255) (h12 : τ.1 12 = nI s) (hw : ∀ j, j < s → τ.2.1 17 j = nI (w j % 256)) (ha : Adr nb V y) (hu : y % 1024 + 8 + vdat V (y + 6) % 256 ≤ 1024) (hk : k < 100000) :
    ∃ r : Nat, ((r = 1 ∧ nmEq (vdat V) y w s) ∨ (r = 0 ∧ ¬ nmEq (vdat V) y w s)) ∧ ∀ k4, fMX12_isTaken_0_43 nb k4 (nI k) (if vdat V (y + 6) % 256 = s then nI 1 else nI 0) (XD (fnd τ (nI y) be se) f) = k4 (nI r, nI (k + 1), XD (fnd τ (nI y) be se) f) := by
  have hya := Adr_lt hn ha
  have s12 : (XD (fnd τ (nI y) be se) f).1 12 = nI s := h12
  have s10 : (XD (fnd τ (nI y) be se) f).1 10 = nI y := rfl
  by_cases c : vdat V (y + 6) % 256 = s
  · have key : ∃ r : Nat, ((r = 1 ∧ nmEq (vdat V) y w s) ∨ (r = 0 ∧ ¬ nmEq (vdat V) y w s)) ∧ ∀ k4 : (Int32 × Int32 × XS) → Option (Int32 × XS), lfix ((fun k4 k46 t => fMX12_isTaken_0_46 nb k4 k46 t.1 t.2.1 t.2.2.1 t.2.2.2) k4) FU (nI 1, nI k, nI 0, XD (fnd τ (nI y) be se) f) = k4 (nI r, nI (k + 1), XD (fnd τ (nI y) be se) f) := by
      refine lmea (κ := (Int32 × Int32 × XS) → Option (Int32 × XS)) (fun k4 k46 t => fMX12_isTaken_0_46 nb k4 k46 t.1 t.2.1 t.2.2.1 t.2.2.2) (fun q : Nat × Nat => (nI q.1, nI k, nI q.2, XD (fnd τ (nI y) be se) f)) (fun k4 (r : Nat) => k4 (nI r, nI (k + 1), XD (fnd τ (nI y) be se) f))
        (fun q => q.2 ≤ s ∧ (q.1 = 1 ∧ (∀ j, j < q.2 → vdat V (y + 8 + j) % 256 = w j % 256) ∨ q.1 = 0 ∧ ¬ nmEq (vdat V) y w s)) _ (fun q => s + 1 - q.2) ?_ FU (1, 0) ⟨Nat.zero_le _, .inl ⟨rfl, fun j hj => by have hj : j < 0 := hj; omega⟩⟩ (by show s + 1 - 0 < FU; unfold FU; omega)
      rintro ⟨g, j⟩ ⟨h2, h3⟩
      have h2 : j ≤ s := h2
      have h3 : g = 1 ∧ (∀ i, i < j → vdat V (y + 8 + i) % 256 = w i % 256) ∨ g = 0 ∧ ¬ nmEq (vdat V) y w s := h3
      by_cases cj : j = s
      · right
        rcases h3 with ⟨rfl, g3⟩ | ⟨rfl, g3⟩
        · refine ⟨1, .inl ⟨rfl, c, by rw [← cj]; exact g3⟩, fun k4 K => ?_⟩
          simp (disch := omega) only [fMX12_isTaken_0_46, fMX12_isTaken_0_92, s12, lit, litN, nI_ltI', nI_leI', nI_eqI, nI_clampI, if_pos, nI_add]
        · refine ⟨0, .inr ⟨rfl, g3⟩, fun k4 K => ?_⟩
          simp (disch := omega) only [fMX12_isTaken_0_46, fMX12_isTaken_0_92, s12, lit, litN, nI_ltI', nI_leI', nI_eqI, nI_clampI, if_pos, nI_add]
      · rcases h3 with ⟨rfl, g3⟩ | ⟨rfl, g3⟩
        · left
          have o := one_M nb (fnd τ (nI y) be se) f (a := y + 8 + j) (by omega)
          have d := RMd_d R ha (8 + j) (by omega)
          rw [← Nat.add_assoc] at d
          rw [d] at o
          have v17 : (XD (fnd τ (nI y) be se) f).2.1 17 j = nI (w j % 256) := by rw [XD_k _ _ _ _ (by omega)]; exact hw j (by omega)
          by_cases ce : vdat V (y + 8 + j) % 256 = w j % 256
          · refine ⟨(1, j + 1), ⟨by show j + 1 ≤ s; omega, .inl ⟨rfl, fun i hi => ?_⟩⟩, by show s + 1 - (j + 1) < s + 1 - j; omega, fun k4 K => ?_⟩
            · have hi : i < j + 1 := hi
              by_cases e : i = j
              · subst e; exact ce
              · exact g3 i (by omega)
            · simp (disch := omega) only [fMX12_isTaken_0_46, fMX12_isTaken_0_85, s12, s10, lit, litN, nI_leI', nI_ltI', nI_clampI, n_or, if_neg, nI_eqI, nI_add, o, obs, v17, ce, if_true]
          · refine ⟨(0, j + 1), ⟨by show j + 1 ≤ s; omega, .inr ⟨rfl, fun h => ce (h.2 j (by omega))⟩⟩, by show s + 1 - (j + 1) < s + 1 - j; omega, fun k4 K => ?_⟩
            simp (disch := omega) only [fMX12_isTaken_0_46, fMX12_isTaken_0_85, s12, s10, lit, litN, nI_leI', nI_ltI', nI_clampI, n_or, if_neg, nI_eqI, nI_add, o, obs, v17, nI_ne, ce, if_false]
        · right
          refine ⟨0, .inr ⟨rfl, g3⟩, fun k4 K => ?_⟩
          simp (disch := omega) only [fMX12_isTaken_0_46, fMX12_isTaken_0_92, s12, lit, litN, nI_ltI', nI_leI', nI_eqI, nI_clampI, if_neg, if_true, nI_add]
    obtain ⟨r, hr, h⟩ := key
    refine ⟨r, hr, fun k4 => ?_⟩
    rw [if_pos c]
    have h' := h k4
    simp only [fMX12_isTaken_0_43, lit, litN]
    exact h'
  · refine ⟨0, .inr ⟨rfl, fun h => c h.1⟩, fun k4 => ?_⟩
    rw [if_neg c]
    simp only [fMX12_isTaken_0_43, lit, litN]
    rw [lf1]
    by_cases c0 : s = 0
    · simp (disch := omega) only [fMX12_isTaken_0_46, fMX12_isTaken_0_92, s12, lit, litN, nI_ltI', nI_leI', nI_eqI, nI_clampI, if_pos, nI_add]
    · simp (disch := omega) only [fMX12_isTaken_0_46, fMX12_isTaken_0_92, s12, lit, litN, nI_ltI', nI_leI', nI_eqI, nI_clampI, if_neg, if_true, nI_add]
