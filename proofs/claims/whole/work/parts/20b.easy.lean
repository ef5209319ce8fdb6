set_option maxRecDepth 4096 in
theorem i64_and (v : Nat) (hv : v < 4294967296) : (nI v).toInt64 &&& 4294967295 = Int64.ofNat v := by
  apply Int64.toBitVec_inj.mp
  show (BitVec.ofNat 32 v).signExtend 64 &&& 4294967295#64 = BitVec.ofNat 64 v
  apply BitVec.eq_of_getLsbD_eq
  intro i hi
  rw [BitVec.getLsbD_and, BitVec.getLsbD_signExtend, BitVec.getLsbD_ofNat, BitVec.getLsbD_ofNat, BitVec.getLsbD_ofNat, show (4294967295 : Nat) = 2 ^ 32 - 1 from rfl, Nat.testBit_two_pow_sub_one]
  by_cases c : i < 32
  · simp [c, hi]
  · have : v.testBit i = false := Nat.testBit_lt_two_pow (Nat.lt_of_lt_of_le (show v < 2 ^ 32 from hv) (Nat.pow_le_pow_right (by decide) (show 32 ≤ i by omega)))
    simp [c, this]
set_option maxRecDepth 4096 in
theorem i64_low (x : Int64) : ∃ v, v < 4294967296 ∧ x.toInt32 = nI v ∧ x &&& 4294967295 = Int64.ofNat v := by
  refine ⟨x.toBitVec.toNat % 4294967296, Nat.mod_lt _ (by omega), ?_, ?_⟩
  · apply Int32.toBitVec_inj.mp
    show x.toBitVec.signExtend 32 = BitVec.ofNat 32 (x.toBitVec.toNat % 4294967296)
    rw [BitVec.signExtend_eq_setWidth_of_le _ (by decide)]
    apply BitVec.eq_of_toNat_eq
    rw [BitVec.toNat_setWidth, BitVec.toNat_ofNat]; omega
  · apply Int64.toBitVec_inj.mp
    show x.toBitVec &&& 4294967295#64 = BitVec.ofNat 64 (x.toBitVec.toNat % 4294967296)
    apply BitVec.eq_of_getLsbD_eq
    intro i hi
    rw [BitVec.getLsbD_and, BitVec.getLsbD_ofNat, BitVec.getLsbD_ofNat, show (4294967295 : Nat) = 2 ^ 32 - 1 from rfl, Nat.testBit_two_pow_sub_one, show (4294967296 : Nat) = 2 ^ 32 from rfl, Nat.testBit_mod_two_pow, ← BitVec.testBit_toNat]
    simp [hi, Bool.and_comm]
set_option maxRecDepth 4096 in
theorem dirF {nb : Nat} {V : VV} (G : Good nb V) {h : Nat} (hk : vkd V h = 2) : live V h ∧ DirI nb V h ∧ DS2 nb V h ∧ LO nb V (fl V h) := by
  have hl : live V h := .inr hk
  have DI := G.2.2.2.2.2.2.2.2.2.2.2.2.2 h hk
  exact ⟨hl, DI, dir_DS2 G.1.1 G.1.2.2 hl DI, dir_LO G.1.2.2 hl DI⟩
set_option maxRecDepth 4096 in
theorem itmF {nb : Nat} {V : VV} (G : Good nb V) {h a k : Nat} (hk : vkd V h = 2) (ha : (itm (vdat V) (fl V h))[k]? = some a) : Ent nb V h a ∧ Adr nb V a ∧ a + 12 ≤ 524288 ∧ rd4 (vdat V) a < 2100 ∧ a ∈ fl V h ∧ rd4 (vdat V) a ≠ 0 ∧ a % 1024 + 8 + vdat V (a + 6) % 256 ≤ 1024 := by
  have hg := G_lt G.1.1
  obtain ⟨hl, DI, D2, hL⟩ := dirF G hk
  have hm := List.mem_of_getElem? ha
  obtain ⟨m1, m2⟩ := List.mem_filter.mp hm
  have hi := itm_mem hm
  obtain ⟨a1, a2⟩ := LO_nm hL hi.1 hi.2
  rcases DI.2.2.2.1 a m1 with e | e
  · exact absurd e.1 hi.2
  · have := e.2.1
    exact ⟨e, a1, Adr_lt (by omega) a1, by omega, hi.1, hi.2, a2⟩
set_option maxRecDepth 4096 in
theorem four_F {nb : Nat} {V : VV} {τ : XS} {f : Nat → Nat} (hn : nb ≤ 512) (R : RM nb V τ f) {a : Nat} (h : Adr nb V a) (ρ : XS) : fMX12_four_0 nb (nI a) (XD ρ f) = some (nI (rd4 (vdat V) a), XD ρ f) := by
  rw [four_M nb ρ f (by have := Adr_lt hn h; omega), RMd_4 R h]
set_option maxRecDepth 4096 in
theorem tF {τ : XS} {f : Nat → Nat} (a b c v : Int32) : (XD (fnd (stS τ 0 v) a b c) f).1 0 = v := stS_e τ 0 v
set_option maxRecDepth 4096 in
theorem kF {τ : XS} (a b c v : Int32) : keepT τ (fnd (stS τ 0 v) a b c) := keepT_trans (keepT_S τ v (by omega)) (keepT_f _ a b c)
set_option maxRecDepth 4096 in
theorem nmR {nb : Nat} {σ τ : XS} (I : INV nb σ τ) (h0 : σ.1 0 = nI 0) (h2 : τ.1 2 = nI 0) (hd : σ.2.1 0 = fun _ => sb 0) {f : Nat → Nat} (hf : τ.2.1 0 = fun a => sb (f a)) (v : Int32) : INV nb σ (stS τ 0 v) := INV_nm I h0 h2 hd hf (keepT_S τ v (by omega))
set_option maxRecDepth 4096 in
theorem p_items (nb : Nat) (h5 : nb ≤ 512) : St_items nb (INV nb) := by
  intro σ τ I
  rcases I.2.2 with ⟨h0, h2, hd, f, hf⟩ | ⟨V, d, f, h, H⟩
  · refine ⟨(1, nI 0, σ), (nI 0, stS τ 0 (nI 1)), ?_, ?_, nmR I h0 h2 hd hf _, .inr ⟨rfl, stS_e _ _ _⟩⟩
    · simp only [fXX0_items_0, fXX0_items_0_0, fXX0_needVolume_0, fXX0_needVolume_0_0, h0, lit, litN, if_true, obs, show ¬ (1 : Nat) = 0 by omega, if_false]
    · have nn := none_M0 nb h2
      rw [stS_S] at nn
      simp only [fMX12_items_0, fMX12_items_0_0, nn, obs, lit, litN, nI10, if_false]
  · have H0 := H
    obtain ⟨G, hd, D, S, m1, h1, hkd, hf, R, h9, sh⟩ := H
    obtain ⟨hl, DI, D2, hL⟩ := dirF G hkd
    have hin := G.ino hl
    obtain ⟨ρ, k1, k2, k3⟩ := read_X G.1 hin.1 hin.2.1 hl (G.2.2.2.1 h hl).1 DI.1 D2.2.1 σ d S D
    rw [XDe hd] at k3
    have ic := itemCount_X h5 D k2 hL (fl_2 D2)
    have R0 : RM nb V (stS τ 0 (nI 0)) f := RM_S (by omega) R
    obtain ⟨fo, be, se, cm⟩ := count_M G.1 R0 hin.2.2 hl D2
    have e0 : XD (stS τ 0 (nI 0)) f = stS τ 0 (nI 0) := by rw [← XD_S, XDe hf]
    rw [e0] at cm
    have nn := none_M1 nb (RM1 G R)
    have s9 : (stS τ 0 (nI 0)).1 9 = nI h := h9
    refine ⟨(0, nI (itm (vdat V) (fl V h)).length, XD ρ d), (nI (itm (vdat V) (fl V h)).length, XD (fnd (stS τ 0 (nI 0)) fo be se) f), ?_, ?_, INV_ro I H0 k1 (kF fo be se (nI 0)), .inl ⟨rfl, tF _ _ _ _, rfl⟩⟩
    · simp only [fXX0_items_0, fXX0_items_0_0, fXX0_needVolume_0, fXX0_needVolume_0_0, m1, h1, lit, litN, nI10, if_false, obs, if_true, k3, ic]
    · simp only [fMX12_items_0, fMX12_items_0_0, nn, obs, lit, litN, if_true, s9, cm]
set_option maxRecDepth 4096 in
theorem p_letter (nb : Nat) (h5 : nb ≤ 512) : St_letter nb (INV nb) := by
  intro σ τ x0 x1 I
  obtain ⟨k, hk, rfl⟩ := nI_all x0
  obtain ⟨j, hj, rfl⟩ := nI_all x1
  rcases I.2.2 with ⟨h0, h2, hd, f, hf⟩ | ⟨V, d, f, h, H⟩
  · refine ⟨(1, nI 0, σ), (nI 0, stS τ 0 (nI 1)), ?_, ?_, nmR I h0 h2 hd hf _, .inr (.inl ⟨rfl, stS_e _ _ _⟩)⟩
    · simp only [fXX0_letter_0, fXX0_letter_0_0, itemHere_X0 h0, obs, show ¬ (1 : Nat) = 0 by omega, if_false, lit, litN]
    · simp only [fMX12_letter_0, fMX12_letter_0_0, no_M0 h2, obs, lit, litN, nI10, if_false]
  · have H0 := H
    obtain ⟨G, hd, D, S, m1, h1, hkd, hf, R, h9, sh⟩ := H
    rcases itemHere_X H0 hk with ⟨q, a, ρ, k1, k2, k3, k4, k5, k6⟩ | ⟨k5, ρ, k1, k6⟩
    · rcases no_M H0 hk with ⟨a', be, n1, n2, n3⟩ | ⟨n1, _⟩
      · obtain rfl : a = a' := by rw [k5] at n1; injection n1
        obtain ⟨E, a1, a2, a3, a4, a5, a6⟩ := itmF G hkd k5
        obtain ⟨hl, DI, D2, hL⟩ := dirF G hkd
        have lt := letterOf_X h5 D k2 hL k4 a5 hj
        have s10 : ∀ ρ' : XS, (XD (fnd ρ' (nI a) be (nI k)) f).1 10 = nI a := fun _ => rfl
        have o6 : ∀ ρ', fMX12_one_0 nb (nI (a + 6)) (XD ρ' f) = some (nI (vdat V (a + 6) % 256), XD ρ' f) := fun ρ' => by rw [one_M nb ρ' f (by omega), RMd_d R a1 6 (by omega)]
        have hmod : vdat V (a + 6) % 256 < 256 := Nat.mod_lt _ (by omega)
        refine ⟨(0, if j < vdat V (a + 6) % 256 then nI (vdat V (a + 8 + j) % 256) else -nI 1, XD ρ d), (if j < vdat V (a + 6) % 256 then nI (vdat V (a + 8 + j) % 256) else -nI 1, XD (fnd (stS τ 0 (nI 0)) (nI a) be (nI k)) f), ?_, ?_, INV_ro I H0 k1 (kF _ _ _ _), .inl ⟨rfl, tF _ _ _ _, rfl⟩⟩
        · simp only [fXX0_letter_0, fXX0_letter_0_0, k6, obs, if_true, lt]
        · by_cases c : j < 2147483648
          · have hnn := nI_nn c
            by_cases c2 : j < vdat V (a + 6) % 256
            · rw [if_pos c2]
              have o8 : ∀ ρ', fMX12_one_0 nb (nI (a + 8 + j)) (XD ρ' f) = some (nI (vdat V (a + 8 + j) % 256), XD ρ' f) := fun ρ' => by
                have := RMd_d R a1 (8 + j) (by omega)
                rw [← Nat.add_assoc] at this
                rw [one_M nb ρ' f (by omega), this]
              simp (disch := omega) only [fMX12_letter_0, fMX12_letter_0_0, n3, obs, lit, litN, if_true, hnn, if_false, s10, nI_add, o6, nI_ltI', nI_leI', nI_eqI, nI_clampI, if_pos, o8]
            · rw [if_neg c2]
              simp (disch := omega) only [fMX12_letter_0, fMX12_letter_0_0, fMX12_letter_0_29, n3, obs, lit, litN, if_true, hnn, if_false, s10, nI_add, o6, nI_ltI', nI_leI', nI_eqI, nI_clampI, if_neg]
          · rw [if_neg (by omega)]
            have hneg := nI_neg (by omega) hj
            simp (disch := omega) only [fMX12_letter_0, fMX12_letter_0_0, fMX12_letter_0_29, n3, obs, lit, litN, if_true, hneg]
      · rw [k5] at n1; cases n1
    · rcases no_M H0 hk with ⟨a', be, n1, n2, n3⟩ | ⟨n1, fo, be, se, n3⟩
      · rw [k5] at n1; cases n1
      · refine ⟨(2, nI 0, XD ρ d), (nI 0, XD (fnd (stS τ 0 (nI 2)) fo be se) f), ?_, ?_, INV_ro I H0 k1 (kF _ _ _ _), .inr (.inr ⟨rfl, tF _ _ _ _⟩)⟩
        · simp only [fXX0_letter_0, fXX0_letter_0_0, k6, obs, show ¬ (2 : Nat) = 0 by omega, if_false, lit, litN]
        · simp only [fMX12_letter_0, fMX12_letter_0_0, n3, obs, lit, litN, nI10, if_false]
