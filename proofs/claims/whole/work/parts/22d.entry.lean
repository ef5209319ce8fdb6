set_option maxRecDepth 4096 in
theorem entryH_X {nb : Nat} {V : VV} {d : Nat → Nat} {ρ : XS} {L : List Nat} (B : Bas nb V) (S : Sc V ρ) (D : DX nb V d) (R : RdL L ρ) (hL : LO nb V L) {p a : Nat} (h : L[p]? = some a) (he : rd2 (vdat V) (a + 4) % 4 = 0)
    (hc : (rd4 (vdat V) a = 0 ∧ a % 1024 = 0) ∨ (1 ≤ rd4 (vdat V) a ∧ rd4 (vdat V) a ≤ vQ V * vG V ∧ vdat V (a + 7) % 256 = (if vkd V (rd4 (vdat V) a) = 2 then 2 else 1) ∧ ∀ o, 8 + vdat V (a + 6) % 256 ≤ o → o < spc (vdat V (a + 6) % 256) → vdat V (a + o) % 256 = 0)) :
    fXX7_entryHolds_10 nb (nI p) (XD ρ d) = some (nI 1, XD ρ d) := by
  have hg := G_lt B
  obtain ⟨ad, l1, l2, l3⟩ := hL a (get_mem h)
  have ad1 := ad.1
  have r2 := rd2_lt (vdat V) (a + 4)
  have eA := entryAt_X nb d R h
  have lO := lengthOf_X (by omega) D R hL h
  have iO := inodeOf_X (by omega) D R hL h
  have uB := usedBy_X (by omega) D R hL h
  have nl := nameLen_X (by omega) D R hL h
  have hus : usd (vdat V) a ≤ rd2 (vdat V) (a + 4) := by
    by_cases q : rd4 (vdat V) a = 0
    · unfold usd; rw [if_pos q]; omega
    · exact l3 q
  have k10 : (nI 1 = nI 0) = False := eq_false nI10
  have body : fXX7_entryHolds_10 nb (nI p) (XD ρ d) = fXX7_entryHolds_10_70 nb (nI p) (nI a) (nI (rd4 (vdat V) a)) (nI 1) (XD ρ d) := by
    simp (disch := omega) only [fXX7_entryHolds_10, fXX7_entryHolds_10_0, lit, litN, eA, obs, lO, iO, nI_ltI', if_neg, nI_div, nI_mul, nI_sub_dm, he, if_true, nI_add, uB]
  rw [body]
  rcases hc with ⟨q1, q2⟩ | ⟨b1, b2, b3, b4⟩
  · simp (disch := omega) only [fXX7_entryHolds_10_70, q1, lit, litN, if_true, k10, if_false, nI_div, nI_mul, nI_sub_dm, q2]
  · have jz : (nI (rd4 (vdat V) a) = nI 0) = False := eq_false (fun e => by have := nI_inj (rd4_lt _ _) (by omega) e; omega)
    have eu : usd (vdat V) a = spc (vdat V (a + 6) % 256) := by unfold usd; rw [if_neg (by omega)]
    have sg := spc_ge (vdat V (a + 6) % 256)
    rw [eu] at uB hus
    have iD := isDir_X B S D b1 b2
    have g7 := get_X (nb := nb) (a := a + 7) ρ d (by omega) (by omega)
    rw [Adr_d D ad 7 (by omega), b3] at g7
    have hn : vdat V (a + 6) % 256 < 256 := Nat.mod_lt _ (by omega)
    have zz := isZero_X (nb := nb) ρ d (a := a + 8 + vdat V (a + 6) % 256) (b := a + spc (vdat V (a + 6) % 256)) (by omega) (by omega) (by omega) (by omega) (fun x x1 x2 => by
      have e := Adr_d D ad (x - a) (by omega)
      have e2 := b4 (x - a) (by omega) (by omega)
      rw [show a + (x - a) = x by omega] at e e2
      rw [e, e2])
    by_cases q : vkd V (rd4 (vdat V) a) = 2
    · rw [if_pos q] at iD g7
      simp only [fXX7_entryHolds_10_70, fXX7_entryHolds_10_113, lit, litN, jz, if_false, iD, obs, k10, nl, nI_add, g7, if_true, uB, zz]
    · rw [if_neg q] at iD g7
      simp only [fXX7_entryHolds_10_70, fXX7_entryHolds_10_113, lit, litN, jz, if_false, iD, obs, k10, nl, nI_add, g7, if_true, uB, zz]
set_option maxRecDepth 4096 in
theorem sameN_X {nb : Nat} {V : VV} {d : Nat → Nat} {ρ : XS} {L : List Nat} (hn : nb ≤ 512) (D : DX nb V d) (R : RdL L ρ) (hL : LO nb V L) {p q a b : Nat} (hp : L[p]? = some a) (hq : L[q]? = some b) (h0 : rd4 (vdat V) a ≠ 0) (h0' : rd4 (vdat V) b ≠ 0) (hs : ¬ smN (vdat V) a b) :
    fXX7_sameName_10 nb (nI p) (nI q) (XD ρ d) = some (nI 0, XD ρ d) := by
  obtain ⟨ad, l1, l2, l3⟩ := hL a (get_mem hp)
  obtain ⟨bd, m1, m2, m3⟩ := hL b (get_mem hq)
  have ad1 := ad.1; have bd1 := bd.1
  have l4 := l3 h0; have m4 := m3 h0'
  unfold usd at l4 m4
  rw [if_neg h0] at l4
  rw [if_neg h0'] at m4
  have s1 := spc_ge (vdat V (a + 6) % 256)
  have s2 := spc_ge (vdat V (b + 6) % 256)
  have eA := entryAt_X nb d R hp
  have eB := entryAt_X nb d R hq
  have ga := get_X (nb := nb) (a := a + 6) ρ d (by omega) (by omega)
  rw [Adr_d D ad 6 (by omega)] at ga
  have gb := get_X (nb := nb) (a := b + 6) ρ d (by omega) (by omega)
  rw [Adr_d D bd 6 (by omega)] at gb
  have hna : vdat V (a + 6) % 256 < 256 := Nat.mod_lt _ (by omega)
  have hnb : vdat V (b + 6) % 256 < 256 := Nat.mod_lt _ (by omega)
  by_cases c : vdat V (a + 6) % 256 = vdat V (b + 6) % 256
  · have key : ∃ _ : Unit, True ∧ ∀ u : Unit, lfix ((fun _ k57 t => fXX7_sameName_10_57 nb k57 t.1 t.2.1 t.2.2.1 t.2.2.2.1 t.2.2.2.2.1 t.2.2.2.2.2) u) FU (nI (a + 6), nI (b + 6), nI (vdat V (a + 6) % 256), nI 2, nI 0, XD ρ d) = some (nI 0, XD ρ d) := by
      refine lmea (κ := Unit) (fun _ k57 t => fXX7_sameName_10_57 nb k57 t.1 t.2.1 t.2.2.1 t.2.2.2.1 t.2.2.2.2.1 t.2.2.2.2.2) (fun k : Nat => (nI (a + 6), nI (b + 6), nI (vdat V (a + 6) % 256), nI 2, nI k, XD ρ d)) (fun _ (_ : Unit) => some (nI 0, XD ρ d)) (fun k => k ≤ vdat V (a + 6) % 256 ∧ ∀ j, j < k → vdat V (a + 8 + j) % 256 = vdat V (b + 8 + j) % 256) (fun _ => True) (fun k => vdat V (a + 6) % 256 - k) ?_ FU 0 ⟨Nat.zero_le _, fun j hj => by omega⟩ (by show vdat V (a + 6) % 256 - 0 < FU; unfold FU; omega)
      rintro k ⟨k1, k2⟩
      have k3 : k < vdat V (a + 6) % 256 := by
        rcases Nat.lt_or_ge k (vdat V (a + 6) % 256) with w | w
        · exact w
        · exact absurd ⟨c, fun j hj => k2 j (by omega)⟩ hs
      have g1 := get_X (nb := nb) (a := a + 6 + 2 + k) ρ d (by omega) (by omega)
      have e1 := Adr_d D ad (8 + k) (by omega)
      rw [show a + (8 + k) = a + 8 + k by omega] at e1
      rw [show a + 6 + 2 + k = a + 8 + k by omega, e1] at g1
      have g2 := get_X (nb := nb) (a := b + 6 + 2 + k) ρ d (by omega) (by omega)
      have e2 := Adr_d D bd (8 + k) (by omega)
      rw [show b + (8 + k) = b + 8 + k by omega] at e2
      rw [show b + 6 + 2 + k = b + 8 + k by omega, e2] at g2
      have hv1 : vdat V (a + 8 + k) % 256 < 256 := Nat.mod_lt _ (by omega)
      have hv2 : vdat V (b + 8 + k) % 256 < 256 := Nat.mod_lt _ (by omega)
      by_cases ce : vdat V (a + 8 + k) % 256 = vdat V (b + 8 + k) % 256
      · left
        refine ⟨k + 1, ⟨by omega, fun j hj => ?_⟩, by show vdat V (a + 6) % 256 - (k + 1) < vdat V (a + 6) % 256 - k; omega, fun _ K => ?_⟩
        · by_cases e : j = k
          · subst e; exact ce
          · exact k2 j (by omega)
        · simp (disch := omega) only [fXX7_sameName_10_57, lit, litN, nI_leI', if_neg, nI_add, show a + 6 + 2 + k = a + 8 + k by omega, show b + 6 + 2 + k = b + 8 + k by omega, g1, g2, obs, ce, if_true]
      · right
        refine ⟨(), trivial, fun _ K => ?_⟩
        simp (disch := omega) only [fXX7_sameName_10_57, lit, litN, nI_leI', if_neg, nI_add, show a + 6 + 2 + k = a + 8 + k by omega, show b + 6 + 2 + k = b + 8 + k by omega, g1, g2, obs, nI_eqI, ce, if_false]
    obtain ⟨_, _, h⟩ := key
    have h' := h ()
    rw [c] at h'
    simp only [fXX7_sameName_10, fXX7_sameName_10_0, lit, litN, eA, eB, obs, nI_add, ga, gb, c, if_true]
    exact h'
  · simp (disch := omega) only [fXX7_sameName_10, fXX7_sameName_10_0, lit, litN, eA, eB, obs, nI_add, ga, gb, nI_eqI, c, if_false]
set_option maxRecDepth 4096 in
theorem nameH_X {nb : Nat} {V : VV} {d : Nat → Nat} {ρ : XS} {L : List Nat} (hn : nb ≤ 512) (D : DX nb V d) (R : RdL L ρ) (hL : LO nb V L) {p a : Nat} (hp : L[p]? = some a) (h0 : rd4 (vdat V) a ≠ 0) (h1 : 1 ≤ vdat V (a + 6) % 256) (h2 : ∀ k, k < vdat V (a + 6) % 256 → vdat V (a + 8 + k) % 256 ≠ 0 ∧ vdat V (a + 8 + k) % 256 ≠ 47)
    (hs : ∀ q b, q < p → L[q]? = some b → rd4 (vdat V) b ≠ 0 → ¬ smN (vdat V) b a) : fXX7_nameHolds_10 nb (nI p) (XD ρ d) = some (nI 1, XD ρ d) := by
  have hpl := get_lt hp
  have hr := R.2.1
  have nl := nameLen_X hn D R hL hp
  have hna : vdat V (a + 6) % 256 < 256 := Nat.mod_lt _ (by omega)
  have key2 : ∃ _ : Unit, True ∧ ∀ u : Unit, lfix ((fun _ k49 t => fXX7_nameHolds_10_49 nb k49 t.1 t.2.1 t.2.2.1 t.2.2.2) u) FU (nI p, nI (vdat V (a + 6) % 256), nI 0, XD ρ d) = some (nI 1, XD ρ d) := by
    refine lfor (κ := Unit) (fun _ k49 t => fXX7_nameHolds_10_49 nb k49 t.1 t.2.1 t.2.2.1 t.2.2.2) (fun q (_ : Unit) => (nI p, nI (vdat V (a + 6) % 256), nI q, XD ρ d)) (fun _ _ => some (nI 1, XD ρ d)) p (fun _ _ => True) ?_ ?_ 0 () FU (Nat.zero_le _) trivial (by unfold FU; omega)
    · rintro q _ hq _
      refine ⟨(), trivial, fun _ K => ?_⟩
      obtain ⟨b, hb⟩ : ∃ b, L[q]? = some b := ⟨_, List.getElem?_eq_getElem (by omega)⟩
      have io := inodeOf_X hn D R hL hb
      by_cases c : rd4 (vdat V) b = 0
      · rw [c] at io
        simp (disch := omega) only [fXX7_nameHolds_10_49, fXX7_nameHolds_10_76, lit, litN, nI_leI', if_neg, io, obs, if_true, nI_add]
      · have jz : (nI (rd4 (vdat V) b) = nI 0) = False := eq_false (fun e => by have := nI_inj (rd4_lt _ _) (by omega) e; omega)
        have sn := sameN_X hn D R hL hb hp c h0 (hs q b hq hb c)
        simp (disch := omega) only [fXX7_nameHolds_10_49, fXX7_nameHolds_10_76, lit, litN, nI_leI', if_neg, io, obs, jz, if_false, sn, if_true, nI_add]
    · rintro _ _ _ K
      simp (disch := omega) only [fXX7_nameHolds_10_49, lit, litN, nI_leI', if_pos, if_neg]
  obtain ⟨_, _, e2⟩ := key2
  have e2 := e2 ()
  have key1 : ∃ _ : Unit, True ∧ ∀ u : Unit, lfix ((fun _ k11 t => fXX7_nameHolds_10_11 nb k11 t.1 t.2.1 t.2.2.1 t.2.2.2) u) FU (nI p, nI (vdat V (a + 6) % 256), nI 0, XD ρ d) = some (nI 1, XD ρ d) := by
    refine lfor (κ := Unit) (fun _ k11 t => fXX7_nameHolds_10_11 nb k11 t.1 t.2.1 t.2.2.1 t.2.2.2) (fun q (_ : Unit) => (nI p, nI (vdat V (a + 6) % 256), nI q, XD ρ d)) (fun _ _ => some (nI 1, XD ρ d)) (vdat V (a + 6) % 256) (fun _ _ => True) ?_ ?_ 0 () FU (Nat.zero_le _) trivial (by unfold FU; omega)
    · rintro q _ hq _
      refine ⟨(), trivial, fun _ K => ?_⟩
      have lt := letterOf_X hn D R hL hp h0 (x := q) (by omega)
      rw [if_pos hq] at lt
      obtain ⟨z1, z2⟩ := h2 q hq
      have hv : vdat V (a + 8 + q) % 256 < 256 := Nat.mod_lt _ (by omega)
      simp (disch := omega) only [fXX7_nameHolds_10_11, lit, litN, nI_leI', if_neg, lt, obs, nI_eqI, nI_add]
    · rintro _ _ _ K
      simp (disch := omega) only [fXX7_nameHolds_10_11, lit, litN, nI_leI', if_pos]
      exact e2
  obtain ⟨_, _, e1⟩ := key1
  have e1 := e1 ()
  simp only [fXX7_nameHolds_10, fXX7_nameHolds_10_0, lit, litN, nl, obs]
  exact e1
