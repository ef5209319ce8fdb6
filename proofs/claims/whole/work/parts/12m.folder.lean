set_option maxRecDepth 4096 in
theorem Loc_dotW (b i p : Nat) : Loc b (fun f => dotW f b i p) := by
  have h1 : Loc b (fun f => entW f (1024 * b) i 12 1 2 dotn) := Loc_ent (by omega) (by show 1024 * b + spc 1 ≤ 1024 * b + 1024; have : spc 1 = 12 := rfl; omega)
  have h2 : Loc b (fun f => entW f (1024 * b + 12) p 1012 2 2 dotn) := Loc_ent (by omega) (by show 1024 * b + 12 + spc 2 ≤ 1024 * b + 1024; have : spc 2 = 12 := rfl; omega)
  exact Loc_comp h2 h1
set_option maxRecDepth 4096 in
theorem folder_M {nb : Nat} {V : VV} (A : Stc nb V) {τ : XS} {f : Nat → Nat} (R : RM nb V τ f) {i : Nat} (h1 : 1 ≤ i) (h2 : i ≤ vQ V * vG V) (hl : live V i) (P : Shp V i) (hm : vmn V i = 0) (hf : 1 ≤ nfb V) :
    ∃ τ' f', RM nb (setR (setA (addB V i) 4 i 1024) 15 (dotW (vdat (addB V i)) (vbl (addB V i) i 0) i (vpar V i))) τ' f' ∧ τ'.1 = τ.1 ∧ (∀ k, (k = 1 ∨ k = 2 ∨ k = 3 ∨ k = 17) → τ'.2.1 k = τ.2.1 k) ∧ fMX12_folder_0 nb (nI i) (XD τ f) = some (XD τ' f') := by
  have hg := G_lt A.1
  have hi : i < 2100 := by omega
  have hc : cost (vmn V i) ≤ nfb V := by rw [hm]; exact hf
  obtain ⟨τ1, f1, R1, K1, g1⟩ := gain_M A R hi hl P hc
  obtain ⟨A1, P1, m1, n1, E1, b1, _⟩ := addB_S A h1 h2 hl P hc
  rw [hm] at m1 b1
  have hl1 : live (addB V i) i := by unfold live; rw [E1.2.1]; exact hl
  obtain ⟨o0, o1, o2, o3, o4⟩ := A1.2.2.1 i 0 hl1 (by omega)
  have ep : vpar (addB V i) = vpar V := E1.2.2.2.2.1
  generalize hb : vbl (addB V i) i 0 = b at *
  have e10 : ∀ ρ : XS, ρ.2.1 10 = τ1.2.1 10 → ∀ g, (XD ρ g).2.1 10 i = nI b := fun ρ e g => by
    rw [XD_k _ _ _ _ (by omega), e, (R1.2.2.1 i hi).2.2.2.2.2.2.1]; unfold fst0; rw [if_neg (by omega), hb]
  have e15 : ∀ ρ : XS, ρ.2.1 15 = τ1.2.1 15 → ∀ g, (XD ρ g).2.1 15 i = nI (vpar V i) := fun ρ e g => by
    rw [XD_k _ _ _ _ (by omega), e, R1.2.2.2.2.1 i hi hl1, ep]
  have ent1 := entry_M nb (τ := stS (stA (stA (stA τ1 7 i (nI 1024)) 17 0 (nI 46)) 17 1 (nI 46)) 12 (nI 1)) f1 (w := dotn) (a := 1024 * b) (i := i) (ln := 12) (nl := 1) (kd := 2) rfl (fun k hk => by
    obtain rfl : k = 0 := by omega
    show (stA (stA (stA τ1 7 i (nI 1024)) 17 0 (nI 46)) 17 1 (nI 46)).2.1 17 0 = _
    rw [stA_at, if_neg (by omega), stA_at, if_pos ⟨rfl, rfl⟩]; rfl) (by omega) (by have : spc 1 = 12 := rfl; omega)
  have ent2 := entry_M nb (τ := stS (stS (stA (stA (stA τ1 7 i (nI 1024)) 17 0 (nI 46)) 17 1 (nI 46)) 12 (nI 1)) 12 (nI 2)) (entW f1 (1024 * b) i 12 1 2 dotn) (w := dotn) (a := 1024 * b + 12) (i := vpar V i) (ln := 1012) (nl := 2) (kd := 2) rfl (fun k hk => by
    show (stA (stA (stA τ1 7 i (nI 1024)) 17 0 (nI 46)) 17 1 (nI 46)).2.1 17 k = _
    rw [stA_at, stA_at]
    rcases (show k = 0 ∨ k = 1 by omega) with rfl | rfl
    · rw [if_neg (by omega), if_pos ⟨rfl, rfl⟩]; rfl
    · rw [if_pos ⟨rfl, rfl⟩]; rfl) (by omega) (by have : spc 2 = 12 := rfl; omega)
  refine ⟨stS (stA (stA (stS (stS (stA (stA (stA τ1 7 i (nI 1024)) 17 0 (nI 46)) 17 1 (nI 46)) 12 (nI 1)) 12 (nI 2)) 17 0 (τ1.2.1 17 0)) 17 1 (τ1.2.1 17 1)) 12 (τ1.1 12), dotW f1 b i (vpar V i), ?_, ?_, fun k hk => ?_, ?_⟩
  · have R2 := RM_loc (RM_sz R1 i 1024) (Loc_dotW b i (vpar V i))
    refine RM_tau R2 (fun k hk => ?_) (fun k k1 k2 => ?_) rfl
    · rw [stS_k _ _ _ (by omega)]
      show (stS (stS τ1 12 (nI 1)) 12 (nI 2)).1 k = τ1.1 k
      rw [stS_k _ _ _ (by omega), stS_k _ _ _ (by omega)]
    · show (stA (stA (stA (stA (stA τ1 7 i (nI 1024)) 17 0 (nI 46)) 17 1 (nI 46)) 17 0 (τ1.2.1 17 0)) 17 1 (τ1.2.1 17 1)).2.1 k = (stA τ1 7 i (nI 1024)).2.1 k
      rw [stA_k _ _ _ _ (by omega), stA_k _ _ _ _ (by omega), stA_k _ _ _ _ (by omega), stA_k _ _ _ _ (by omega)]
  · rw [← K1.1]
    show upd (upd (upd τ1.1 12 (nI 1)) 12 (nI 2)) 12 (τ1.1 12) = τ1.1
    funext k; unfold upd
    by_cases c : k = 12
    · rw [if_pos c, c]
    · rw [if_neg c, if_neg c, if_neg c]
  · have hk1 : τ1.2.1 k = τ.2.1 k := K1.2.1 k (by omega)
    rw [← hk1]
    funext x
    show (stA (stA (stA (stA (stA τ1 7 i (nI 1024)) 17 0 (nI 46)) 17 1 (nI 46)) 17 0 (τ1.2.1 17 0)) 17 1 (τ1.2.1 17 1)).2.1 k x = τ1.2.1 k x
    simp only [stA_at]
    by_cases c1 : k = 17 ∧ x = 1
    · rw [if_pos c1, c1.1, c1.2]
    · rw [if_neg c1]
      by_cases c0 : k = 17 ∧ x = 0
      · rw [if_pos c0, c0.1, c0.2]
      · rw [if_neg c0, if_neg c1, if_neg c0, if_neg (by omega)]
  · have z0 : (nI 0).toNatClampNeg = 0 := rfl
    have z1 : (nI 1).toNatClampNeg = 1 := rfl
    have x17 : ∀ x, (XD (stA τ1 7 i (nI 1024)) f1).2.1 17 x = τ1.2.1 17 x := fun x => rfl
    have y10 : (XD (stS (stA (stA (stA τ1 7 i (nI 1024)) 17 0 (nI 46)) 17 1 (nI 46)) 12 (nI 1)) f1).2.1 10 i = nI b := e10 _ rfl _
    have y10b : ∀ g, (XD (stS (stS (stA (stA (stA τ1 7 i (nI 1024)) 17 0 (nI 46)) 17 1 (nI 46)) 12 (nI 1)) 12 (nI 2)) g).2.1 10 i = nI b := fun g => e10 _ rfl _
    have y15 : ∀ g, (XD (stS (stS (stA (stA (stA τ1 7 i (nI 1024)) 17 0 (nI 46)) 17 1 (nI 46)) 12 (nI 1)) 12 (nI 2)) g).2.1 15 i = nI (vpar V i) := fun g => e15 _ rfl _
    have x12 : (XD τ1 f1).1 12 = τ1.1 12 := rfl
    simp (disch := omega) only [fMX12_folder_0, fMX12_folder_0_0, g1, obs, lit, litN, nI_ltI', nI_leI', nI_eqI, nI_clampI, n_or, if_neg, x12, XD_A, XD_S, x17, y10, nI_mul, ent1, y10b, nI_add, y15, ent2]
    rfl
