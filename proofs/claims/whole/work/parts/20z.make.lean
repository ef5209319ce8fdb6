set_option maxRecDepth 4096 in
theorem first_eq {p : Nat → Prop} : ∀ {l1 l1' l2 l2' : List Nat} {a b : Nat}, l1 ++ a :: l2 = l1' ++ b :: l2' → p a → p b → (∀ c ∈ l1, ¬ p c) → (∀ c ∈ l1', ¬ p c) → l1 = l1' ∧ a = b := by
  intro l1
  induction l1 with
  | nil =>
    intro l1' l2 l2' a b e ha hb _ h'
    cases l1' with
    | nil => injection e with e1 e2; exact ⟨rfl, e1⟩
    | cons x r => injection e with e1 e2; exact absurd ha (by rw [e1]; exact h' x (List.mem_cons_self ..))
  | cons x r ih =>
    intro l1' l2 l2' a b e ha hb h h'
    cases l1' with
    | nil => injection e with e1 e2; exact absurd hb (by rw [← e1]; exact h x (List.mem_cons_self ..))
    | cons x' r' =>
      injection e with e1 e2
      obtain ⟨q1, q2⟩ := ih e2 ha hb (fun c hc => h c (List.mem_cons_of_mem _ hc)) (fun c hc => h' c (List.mem_cons_of_mem _ hc))
      exact ⟨by rw [e1, q1], q2⟩
set_option maxRecDepth 4096 in
theorem RM_kT {nb : Nat} {V : VV} {τ τ' : XS} {f : Nat → Nat} (R : RM nb V τ f) (k : keepT τ τ') : RM nb V τ' f := RM_tau R (fun j hj => k.1 j (by omega) (by omega) (by omega) (by omega) (by omega)) (fun j h1 h2 => k.2.1 j (by omega)) k.2.2
def tN (τ : XS) (v : Int32) (w : Nat → Nat) (n : Nat) : XS := stS (nmM (stS (stS τ 0 v) 12 (nI n)) w n) 1 (nI 0)
set_option maxRecDepth 4096 in
theorem keepT_N (τ : XS) (v : Int32) (w : Nat → Nat) (n : Nat) : keepT (stS τ 1 (nI 0)) (tN τ v w n) := by
  refine ⟨fun k h0 h10 h11 h12 h13 => ?_, fun k h17 => ?_, rfl⟩
  · by_cases c : k = 1
    · subst c; unfold tN; rw [stS_e, stS_e]
    · unfold tN; rw [stS_k _ _ _ c, stS_k _ _ _ c]; show (stS (stS τ 0 v) 12 (nI n)).1 k = _; rw [stS_k _ _ _ h12, stS_k _ _ _ h0]
  · exact nmM_k _ _ _ h17
set_option maxRecDepth 4096 in
theorem tN_0 (τ : XS) (v : Int32) (w : Nat → Nat) (n : Nat) : (tN τ v w n).1 0 = v := by
  unfold tN; rw [stS_k _ _ _ (by omega)]; show (stS (stS τ 0 v) 12 (nI n)).1 0 = _; rw [stS_k _ _ _ (by omega), stS_e]
set_option maxRecDepth 4096 in
theorem tN_12 (τ : XS) (v : Int32) (w : Nat → Nat) (n : Nat) : (tN τ v w n).1 12 = nI n := by
  unfold tN; rw [stS_k _ _ _ (by omega)]; exact stS_e (stS τ 0 v) 12 (nI n)
set_option maxRecDepth 4096 in
theorem nI_nm1 {p : Nat} (h : p < 3000) : ¬ nI p = -nI 1 := by
  rw [show -nI 1 = nI 4294967295 by decide +kernel]; intro e; have := nI_inj (by omega) (by omega) e; omega
set_option maxRecDepth 4096 in
theorem mk_Xf {nb k t h : Nat} {r : Int32} {σ s0 s1 s2 : XS} (hk : k = 0 ∨ k = 1) (dr : fXX8_drain_16 nb σ = some (nI t, s0)) (nv : fXX0_needVolume_0 nb s0 = some (0, s1)) (h1 : s1.1 1 = nI h) (rd : fXX5_read_7 nb (nI h) s1 = some s2) (nm : fXX8_isName_16 nb (nI t) s2 = some (nI 1, s2)) (hs : fXX5_has_7_16 nb (nI t) s2 = some (nI 0, s2)) (rm : fXX5_roomFor_7 nb (nI t) s2 = some (r, s2)) :
    fXX0_make_0 nb (nI k) σ = fXX0_make_0_77 nb (nI k) (nI t) r (nI k) s2 := by
  rcases hk with q | q <;> subst q
  · simp only [fXX0_make_0, fXX0_make_0_0, dr, nv, obs, if_true, h1, rd, nm, hs, rm, lit, litN, nI10, if_false]
  · simp only [fXX0_make_0, fXX0_make_0_0, dr, nv, obs, if_true, h1, rd, nm, hs, rm, lit, litN, nI10, if_false]
set_option maxRecDepth 4096 in
theorem mk_X3 {nb t h : Nat} {x : Int32} {σ s0 s1 s2 : XS} (dr : fXX8_drain_16 nb σ = some (nI t, s0)) (nv : fXX0_needVolume_0 nb s0 = some (0, s1)) (h1 : s1.1 1 = nI h) (rd : fXX5_read_7 nb (nI h) s1 = some s2) (nm : fXX8_isName_16 nb (nI t) s2 = some (nI 0, s2) ∨ (fXX8_isName_16 nb (nI t) s2 = some (nI 1, s2) ∧ fXX5_has_7_16 nb (nI t) s2 = some (nI 1, s2))) :
    fXX0_make_0 nb x σ = some (3, nI 0, s2) := by
  rcases nm with nm | ⟨nm, hs⟩
  · simp only [fXX0_make_0, fXX0_make_0_0, fXX0_make_0_49, dr, nv, obs, if_true, h1, rd, nm, lit, litN]
  · simp only [fXX0_make_0, fXX0_make_0_0, fXX0_make_0_49, dr, nv, obs, if_true, h1, rd, nm, hs, lit, litN, nI10, if_false]
-- too few
set_option maxRecDepth 4096 in
theorem mk_X4 {nb t u fi fb : Nat} {x y : Int32} {s : XS} (hu : u < 3000) (hfi : fi < 3000) (hfb : fb < 3000) (f5 : fXX3_free_5 nb s = some (nI fi, s)) (f4 : fXX3_free_4 nb s = some (nI fb, s)) (h : fi = 0 ∨ fb < u) : fXX0_make_0_103 nb x (nI t) y (nI u) s = some (4, nI 0, s) := by
  by_cases c : fi = 0
  · subst c
    simp (disch := omega) only [fXX0_make_0_103, fXX0_make_0_126, f5, obs, lit, litN, nI_ltI', nI_leI', nI_eqI, nI_clampI, if_pos]
  · simp (disch := omega) only [fXX0_make_0_103, fXX0_make_0_126, f5, f4, obs, lit, litN, nI_ltI', nI_leI', nI_eqI, nI_clampI, if_neg]
set_option maxRecDepth 4096 in
theorem mk_XA {nb t u p i e fi fb : Nat} {x : Int32} {s s1 s2 : XS} (hu : u < 3000) (hfi : fi < 3000) (hfb : fb < 3000) (hp : p < 3000) (f5 : fXX3_free_5 nb s = some (nI fi, s)) (f4 : fXX3_free_4 nb s = some (nI fb, s)) (h1 : 1 ≤ fi) (h2 : u ≤ fb) (tk : fXX3_take_5 nb s = some (nI i, s1)) (sp : fXX5_split_7 nb (nI p) s1 = some (nI e, s2)) : fXX0_make_0_103 nb x (nI t) (nI p) (nI u) s = fXX0_make_0_179 nb x (nI t) (nI i) (nI e) s2 := by
  have e1 : ¬ (nI p = -nI 1) := nI_nm1 (by omega)
  simp (disch := omega) only [fXX0_make_0_103, f5, f4, obs, lit, litN, nI_ltI', nI_leI', nI_eqI, nI_clampI, if_neg, if_pos, tk, sp, e1, if_false]
set_option maxRecDepth 4096 in
theorem mk_XB {nb t u i h e fi fb : Nat} {x b : Int32} {s s1 s2 s3 : XS} (hu : u < 3000) (hfi : fi < 3000) (hfb : fb < 3000) (f5 : fXX3_free_5 nb s = some (nI fi, s)) (f4 : fXX3_free_4 nb s = some (nI fb, s)) (h1 : 1 ≤ fi) (h2 : u ≤ fb) (tk : fXX3_take_5 nb s = some (nI i, s1)) (r1 : s1.1 1 = nI h) (ad : fXX4_addDirectoryBlock_6 nb (nI h) s1 = some (b, s2)) (op : fXX5_open_7 nb b s2 = some (nI e, s3)) : fXX0_make_0_103 nb x (nI t) (-nI 1) (nI u) s = fXX0_make_0_179 nb x (nI t) (nI i) (nI e) s3 := by
  simp (disch := omega) only [fXX0_make_0_103, f5, f4, obs, lit, litN, nI_ltI', nI_leI', nI_eqI, nI_clampI, if_neg, if_pos, tk, if_true, r1, ad, op]
-- the reference
set_option maxRecDepth 4096 in
theorem mk_Mf {nb : Nat} {x wh : Int32} {τ s1 s2 s3 : XS} (no : fMX12_none_0 nb τ = some (nI 0, s1)) (nm : fMX12_named_0 nb s1 = some (nI 1, s2)) (tk : fMX12_isTaken_0 nb s2 = some (nI 0, s3)) (f0 : fMX12_fails_0 nb (nI 0) (nI 2) s3 = some (nI 0, s3)) {s4 : XS} (sp : fMX12_spot_0 nb s3 = some (wh, s4)) {o : Option (Int32 × XS)} (lo : lfix (fun k50 t => fMX12_make_0_50 nb k50 t.1 t.2.1 t.2.2.1 t.2.2.2) FU (x, wh, nI 12, s4) = o) : fMX12_make_0 nb x τ = o := by
  rw [← lo]
  simp only [fMX12_make_0, fMX12_make_0_0, fMX12_make_0_31, no, nm, obs, lit, litN, if_true, nI10, if_false, tk, f0, sp]
set_option maxRecDepth 4096 in
theorem mk_M2 {nb : Nat} {x : Int32} {τ s1 s2 s3 s4 : XS} (no : fMX12_none_0 nb τ = some (nI 0, s1)) (nm : (fMX12_named_0 nb s1 = some (nI 0, s2) ∧ s3 = s2) ∨ (fMX12_named_0 nb s1 = some (nI 1, s2) ∧ fMX12_isTaken_0 nb s2 = some (nI 1, s3))) (f1 : fMX12_fails_0 nb (nI 1) (nI 2) s3 = some (nI 1, s4)) : fMX12_make_0 nb x τ = some (nI 0, s4) := by
  rcases nm with ⟨nm, e⟩ | ⟨nm, tk⟩
  · subst e
    simp only [fMX12_make_0, fMX12_make_0_0, fMX12_make_0_26, fMX12_make_0_31, no, nm, obs, lit, litN, if_true, nI10, if_false, f1]
  · simp only [fMX12_make_0, fMX12_make_0_0, fMX12_make_0_26, fMX12_make_0_31, no, nm, obs, lit, litN, if_true, nI10, if_false, tk, f1]
set_option maxRecDepth 4096 in
theorem mk_M80 {nb k i h mn : Nat} {wh : Int32} {s : XS} (hk : k = 0 ∨ k = 1) (h9 : s.1 9 = nI h) (hh : h < 2100) (hm : s.2.1 9 h = nI mn) (hmn : mn < 523) : fMX12_make_0_80 nb (nI k) wh (nI i) s = fMX12_make_0_125 nb (nI k) wh (nI i) (nI k) (nI (if wh = nI 0 then cost mn else 0)) s := by
  have a1 := all_M nb s (n := mn + 1) (by omega)
  have a2 := all_M nb s (n := mn) (by omega)
  have hc := cost_alln hmn
  by_cases c : wh = nI 0
  · subst c
    rcases hk with q | q <;> subst q
    · simp (disch := omega) only [fMX12_make_0_80, fMX12_make_0_116, lit, litN, if_true, h9, nI_ltI', nI_leI', nI_eqI, nI_clampI, n_or, if_neg, hm, nI_add, a1, a2, obs, nI_sub]
      rw [hc, Nat.add_sub_cancel_left]
    · simp (disch := omega) only [fMX12_make_0_80, fMX12_make_0_116, lit, litN, if_true, h9, nI_ltI', nI_leI', nI_eqI, nI_clampI, n_or, if_neg, hm, nI_add, a1, a2, obs, nI_sub, nI10, if_false]
      rw [hc, Nat.add_sub_cancel_left]
  · rw [if_neg c]
    rcases hk with q | q <;> subst q
    · simp only [fMX12_make_0_80, fMX12_make_0_116, lit, litN, if_true, c, if_false]
    · simp only [fMX12_make_0_80, fMX12_make_0_116, lit, litN, if_true, c, if_false, nI10]
set_option maxRecDepth 4096 in
theorem mk_M125 {nb i c k fb QG Q' G' : Nat} {x wh : Int32} {s s' : XS} (h7 : s.1 7 = nI Q') (h5 : s.1 5 = nI G') (hq : Q' * G' = QG) (hQ : QG < 3000) (hi : i < 3000) (hfb : fb < 3000) (hc : c < 10) (hk : k < 10) (f4 : fMX12_freeBlocks_0 nb s = some (nI fb, s)) (f1 : fMX12_fails_0 nb (nI 1) (nI 3) s = some (nI 1, s')) (h : QG < i ∨ fb < c + k) : fMX12_make_0_125 nb x wh (nI i) (nI k) (nI c) s = some (nI 0, s') := by
  by_cases q : QG < i
  · simp (disch := omega) only [fMX12_make_0_125, fMX12_make_0_152, fMX12_make_0_157, h7, h5, nI_mul, hq, lit, litN, nI_ltI', nI_leI', nI_eqI, nI_clampI, if_pos, f1, obs, if_neg]
  · simp (disch := omega) only [fMX12_make_0_125, fMX12_make_0_152, fMX12_make_0_157, h7, h5, nI_mul, hq, lit, litN, nI_ltI', nI_leI', nI_eqI, nI_clampI, if_neg, f4, nI_add, f1, obs, if_neg]
set_option maxRecDepth 4096 in
theorem mk_M181 {nb i c t fb QG Q' G' : Nat} {wh : Int32} {s : XS} (ht : t = 1 ∨ t = 2) (h7 : s.1 7 = nI Q') (h5 : s.1 5 = nI G') (hq : Q' * G' = QG) (hQ : QG < 3000) (hi : i ≤ QG) (hfb : fb < 3000) (hc : c < 10) (f4 : fMX12_freeBlocks_0 nb s = some (nI fb, s)) (f0 : fMX12_fails_0 nb (nI 0) (nI 3) s = some (nI 0, s)) (h : c + (t - 1) ≤ fb) : fMX12_make_0_125 nb (nI (t - 1)) wh (nI i) (nI (t - 1)) (nI c) s = fMX12_make_0_181 nb (nI (t - 1)) wh (nI i) (nI t) (nI i) s := by
  rcases ht with q | q <;> subst q
  · simp (disch := omega) only [fMX12_make_0_125, fMX12_make_0_157, h7, h5, nI_mul, hq, lit, litN, nI_ltI', nI_leI', nI_eqI, nI_clampI, if_neg, if_pos, f4, nI_add, f0, obs, if_true]
  · simp (disch := omega) only [fMX12_make_0_125, fMX12_make_0_157, h7, h5, nI_mul, hq, lit, litN, nI_ltI', nI_leI', nI_eqI, nI_clampI, if_neg, if_pos, f4, nI_add, f0, obs, if_true]

set_option maxRecDepth 4096 in
theorem p_make (nb : Nat) (h5 : nb ≤ 512) : St_make nb (INV nb) := by
  intro σ τ a0 ha0 I
  obtain ⟨k, hk01, rfl⟩ : ∃ k, (k = 0 ∨ k = 1) ∧ a0 = nI k := by
    rcases ha0 with q | q
    · exact ⟨0, .inl rfl, q⟩
    · exact ⟨1, .inr rfl, q⟩
  obtain ⟨w, r, n, t1, t2, t3, t4, t5, t6, t7⟩ := I.1
  have I' := INV_drain I
  have dr : fXX8_drain_16 nb σ = some (nI n, stS σ 8 (nI 0)) := by simp only [fXX8_drain_16, fXX8_drain_16_0, t2, lit, litN]
  have w0 : ∀ v : Int32, ∀ k, k < 4096 → (stS τ 0 v).2.1 2 k = sb (w k) := fun v k hk => t5 k hk
  have w1 : ∀ v : Int32, (stS τ 0 v).1 1 = nI n := fun v => by rw [stS_k _ _ _ (by omega)]; exact t3
  rcases I.2.2 with ⟨h0, h2, hd, f, hf⟩ | ⟨V, d, f, h, H⟩
  · have no := none_M0 nb h2
    rw [stS_S] at no
    have hX : XD (stS τ 0 (nI 1)) f = stS τ 0 (nI 1) := XDe hf
    have nv : fXX0_needVolume_0 nb (stS σ 8 (nI 0)) = some (1, stS σ 8 (nI 0)) := by
      have : (stS σ 8 (nI 0)).1 0 = nI 0 := h0
      simp only [fXX0_needVolume_0, fXX0_needVolume_0_0, this, lit, litN, if_true]
    obtain ⟨b, nm⟩ : ∃ b, fMX12_named_0 nb (stS τ 0 (nI 1)) = some (b, XD (tN τ (nI 1) w (if n ≤ 255 then n else 0)) f) := by
      have := named_M (nb := nb) f (τ := stS τ 0 (nI 1)) t1 (w1 _) (w0 _) rfl
      rw [hX] at this
      rcases this with ⟨_, q⟩ | ⟨_, q⟩
      · exact ⟨_, q⟩
      · exact ⟨_, q⟩
    have hf' : (tN τ (nI 1) w (if n ≤ 255 then n else 0)).2.1 0 = fun a => sb (f a) := by rw [(keepT_N τ (nI 1) w _).2.1 0 (by omega)]; exact hf
    rw [XDe hf'] at nm
    refine ⟨(1, nI 0, stS σ 8 (nI 0)), (nI 0, tN τ (nI 1) w (if n ≤ 255 then n else 0)), ?_, ?_, INV_nm I' h0 h2 hd hf (keepT_N _ _ _ _), .inr (.inl ⟨rfl, tN_0 _ _ _ _⟩)⟩
    · simp only [fXX0_make_0, fXX0_make_0_0, dr, nv, obs, show ¬ (1 : Nat) = 0 by omega, if_false, lit, litN]
    · simp only [fMX12_make_0, fMX12_make_0_0, no, obs, nm, lit, litN, nI10, if_false]
  · have H0 := VolR_drain H
    obtain ⟨G, hd, D, S, m1, h1, hkd, hf, R, h9, sh⟩ := VolR_drain H
    have hgl := G_lt G.1.1
    have hf1 : τ.2.1 0 = fun a => sb (f a) := hf
    have h91 : τ.1 9 = nI h := h9
    have h21 : τ.1 2 = nI 1 := RM1 H.1 H.2.2.2.2.2.2.2.2.1
    obtain ⟨hl, DI, D2, hL⟩ := dirF G hkd
    obtain ⟨in1, in2, in3⟩ := G.ino hl
    obtain ⟨ρ, k1, k2, k3⟩ := read_X G.1 in1 in2 hl (G.2.2.2.1 h hl).1 DI.1 D2.2.1 (stS σ 8 (nI 0)) d S D
    rw [XDe hd] at k3
    have S1 := Sc_keep k1 S
    have T1 : TP w ρ := fun j hj => by rw [k1.2.1 6 (by omega)]; exact t4 j hj
    have nv : fXX0_needVolume_0 nb (stS σ 8 (nI 0)) = some (0, stS σ 8 (nI 0)) := by
      have : (stS σ 8 (nI 0)).1 0 = nI 1 := m1
      simp only [fXX0_needVolume_0, fXX0_needVolume_0_0, this, lit, litN, nI10, if_false]
    have no := none_M1 nb h21
    have hX : XD (stS τ 0 (nI 0)) f = stS τ 0 (nI 0) := XDe hf1
    have nmQ := named_M (nb := nb) f (τ := stS τ 0 (nI 0)) t1 (w1 _) (w0 _) rfl
    rw [hX] at nmQ
    have kN := keepT_N τ (nI 0) w (if n ≤ 255 then n else 0)
    have nmE : stS (nmM (stS (stS τ 0 (nI 0)) 12 (nI (if n ≤ 255 then n else 0))) w (if n ≤ 255 then n else 0)) 1 (nI 0) = tN τ (nI 0) w (if n ≤ 255 then n else 0) := rfl
    rw [nmE] at nmQ
    rcases isName_X nb d T1 t1 with ⟨ok, nmX⟩ | ⟨ok, nmX⟩
    · rcases nmQ with ⟨_, nmQ⟩ | ⟨q, _⟩
      · have hn1 := ok.1
        have hn2 := ok.2.1
        rw [if_pos hn2] at nmQ kN
        have RN : RM nb V (tN τ (nI 0) w n) f := RM_kT R kN
        have N12 := tN_12 τ (nI 0) w n
        have N17 : ∀ j, j < n → (tN τ (nI 0) w n).2.1 17 j = nI (w j % 256) := fun j hj => nmM_17 _ w n j hj
        have N9 : (tN τ (nI 0) w n).1 9 = nI h := (kN.1 9 (by omega) (by omega) (by omega) (by omega) (by omega)).trans h9
        have hX2 := has_X h5 D k2 hL (fl_2 D2) T1 hn2
        have hM2 := isTaken_M G.1 RN hn2 N12 N17 in3 N9 hl D2 hL
        rcases hX2 with ⟨⟨a, ha1, ha2⟩, hX2⟩ | ⟨hnm, hX2⟩
        · rcases hM2 with ⟨_, fo, be, se, hM2⟩ | ⟨q, _⟩
          · have z0 : (XD (fnd (tN τ (nI 0) w n) fo be se) f).1 0 = nI 0 := tN_0 τ (nI 0) w n
            have f1 := fails_1 nb z0 (c := 2) (by omega) (by omega)
            rw [XD_S] at f1
            refine ⟨(3, nI 0, XD ρ d), (nI 0, _), mk_X3 dr nv h1 k3 (.inr ⟨nmX, hX2⟩), mk_M2 no (.inr ⟨nmQ, hM2⟩) f1, ?_, .inr (.inr (.inl ⟨rfl, stS_e (fnd (tN τ (nI 0) w n) fo be se) 0 (nI 2)⟩))⟩
            exact INV_ro I' H0 k1 (keepT_trans kN (keepT_trans (keepT_f _ fo be se) (keepT_S _ (m := 0) (nI 2) (by omega))))
          · exact absurd ha2 (q a ha1)
        · rcases hM2 with ⟨⟨a, ha1, ha2⟩, _⟩ | ⟨_, fo, be, se, hM2⟩
          · exact absurd ha2 (hnm a ha1)
          · -- a name for a new item
            generalize hτ2 : fnd (tN τ (nI 0) w n) fo be se = τ2 at *
            have k2T : keepT (stS τ 1 (nI 0)) τ2 := by rw [← hτ2]; exact keepT_trans kN (keepT_f _ fo be se)
            have R2 : RM nb V τ2 f := RM_kT R k2T
            have z0 : τ2.1 0 = nI 0 := by rw [← hτ2]; exact tN_0 τ (nI 0) w n
            have z12 : τ2.1 12 = nI n := by rw [← hτ2]; exact N12
            have z17 : ∀ j, j < n → τ2.2.1 17 j = nI (w j % 256) := by rw [← hτ2]; exact N17
            have z9 : τ2.1 9 = nI h := (k2T.1 9 (by omega) (by omega) (by omega) (by omega) (by omega)).trans h9
            have f0 := fails_0 nb (τ := XD τ2 f) z0 (nI 2)
            have fr5 := free5_C G.1.1 S1 D G.2.1
            have fr4 := free4_C G.1.1 S1 D G.1.2.1
            have hnf := nfb_lt G.1.1
            have hmn := mn_lt G.1.1 G.1.2.2 hl
            have r1 : ρ.1 1 = nI h := (k1.1 1 (by omega)).trans h1
            have hsz := DI.1.2.1
            have hprt : prt (vsz V h + 1024) = vmn V h + 1 ∧ prt (vsz V h) = vmn V h := by unfold prt; omega
            have hca := cost_alln (n := vmn V h) (by omega)
            have hcl : cost (vmn V h) < 4 := by unfold cost; split <;> (try split) <;> omega
            rcases roomFor_X h5 D k2 hL hn2 with ⟨l1, y, l2, e1, e2, e3, e4, rmX⟩ | ⟨e4, rmX⟩
            · -- room in an old block
              rcases spot_M G.1 R2 hn2 z12 in3 z9 hl D2 hL with ⟨l1', y', l2', g1, g2, g3, spM⟩ | ⟨q, _⟩
              · obtain ⟨el, rfl⟩ : l1 = l1' ∧ y = y' := first_eq (e1.symm.trans g1) e3 g2 e4 g3
                have hl1 : l1.length < 3000 := by have := get_lt e2; have := D2.2.1; omega
                have hwh : ¬ (if usd (vdat V) y = 0 then nI 2 else nI 1) = nI 0 := by
                  by_cases c : usd (vdat V) y = 0
                  · rw [if_pos c]; decide +kernel
                  · rw [if_neg c]; exact nI10
                generalize hτ3 : fnd τ2 (nI y) (τ2.1 11) (τ2.1 13) = τ3 at *
                have k3T : keepT (stS τ 1 (nI 0)) τ3 := by rw [← hτ3]; exact keepT_trans k2T (keepT_f _ _ _ _)
                have R3 : RM nb V τ3 f := RM_kT R k3T
                have y0 : τ3.1 0 = nI 0 := by rw [← hτ3]; exact z0
                have y9 : τ3.1 9 = nI h := (k3T.1 9 (by omega) (by omega) (by omega) (by omega) (by omega)).trans h9
                have y10 : τ3.1 10 = nI y := by rw [← hτ3]; rfl
                have y12 : τ3.1 12 = nI n := by rw [← hτ3]; exact z12
                have y17 : ∀ j, j < n → τ3.2.1 17 j = nI (w j % 256) := by rw [← hτ3]; exact z17
                have fb := freeB_M G.1.1 R3
                have f0' := fails_0 nb (τ := XD τ3 f) y0 (nI 3)
                have f1' := fails_1 nb (τ := XD τ3 f) y0 (c := 3) (by omega) (by omega)
                rw [XD_S] at f1'
                obtain ⟨i, hi, loM⟩ := low_M G R3 (nI k) (if usd (vdat V) y = 0 then nI 2 else nI 1)
                have e80 := mk_M80 (nb := nb) (i := i) (wh := if usd (vdat V) y = 0 then nI 2 else nI 1) (s := XD τ3 f) hk01 y9 in3 (by rw [XD_k _ _ _ _ (by omega)]; exact (R3.2.2.1 h in3).2.2.2.1) (by omega)
                rw [if_neg hwh] at e80
                rw [e80] at loM
                have MM := mk_Mf no nmQ hM2 f0 spM loM
                have XX := mk_Xf hk01 dr nv h1 k3 nmX hX2 rmX
                have X77 : fXX0_make_0_77 nb (nI k) (nI n) (nI l1.length) (nI k) (XD ρ d) = fXX0_make_0_103 nb (nI k) (nI n) (nI l1.length) (nI k) (XD ρ d) := by
                  have := nI_nm1 hl1
                  simp only [fXX0_make_0_77, lit, litN, this, if_false]
                rw [X77] at XX
                by_cases cf : nfi V = 0 ∨ nfb V < k
                · -- too few
                  have X4 := mk_X4 (t := n) (x := nI k) (y := nI l1.length) (u := k) (by omega) (by omega) (by omega) fr5 fr4 cf
                  have M3 := mk_M125 (i := i) (c := 0) (k := k) (x := nI k) (wh := if usd (vdat V) y = 0 then nI 2 else nI 1) (s := XD τ3 f) R3.1.2.2.2.2.1 R3.1.2.2.1 rfl (by omega) (by omega) (by omega) (by omega) (by omega) fb f1' (by omega)
                  refine ⟨_, _, XX.trans X4, MM.trans M3, ?_, .inr (.inr (.inr ⟨rfl, stS_e τ3 0 (nI 3)⟩))⟩
                  exact INV_ro I' H0 k1 (keepT_trans k3T (keepT_S _ (m := 0) (nI 3) (by omega)))
                · rcases hi with ⟨lo, i12, iQ, hfi⟩ | ⟨_, q⟩
                  · obtain ⟨t, ht, rfl⟩ : ∃ t, (t = 1 ∨ t = 2) ∧ k = t - 1 := ⟨k + 1, by omega, by omega⟩
                    obtain ⟨C, d1, s, d', b1, b2, b3, b4, b5, b6, ⟨b7, b8, b9⟩, b10⟩ := mkA_X (w := w) (t := t) h5 G hkd e1 e3 hn1 hn2 lo iQ ht S1 D k2 T1
                    have XA := mk_XA (x := nI (t - 1)) (t := n) (u := t - 1) (by omega) (by omega) (by omega) hl1 fr5 fr4 hfi (by omega) b4 b5
                    have M1 := mk_M181 (i := i) (c := 0) (wh := if usd (vdat V) y = 0 then nI 2 else nI 1) (s := XD τ3 f) ht R3.1.2.2.2.2.1 R3.1.2.2.1 rfl (by omega) iQ (by omega) (by omega) fb f0' (by omega)
                    have M2 := mkA_M (w := w) (i := i) (h := h) (t := t) h5 hn1 hn2 (by omega) ht R3 y9 y10 y12 y17 b7 b8 b9
                    obtain ⟨W, d'', ρ', τ', f', q, GW, eW, kW, DW, kρ, xW, RW, u1, u2, u3, mW⟩ := tail h5 G hkd i12 iQ lo.2.1 ok hnm ht b1 (fun _ => by omega) b3 S1 r1 b6 (b10 τ3 f R3) y9
                    refine ⟨_, _, XX.trans (XA.trans xW), MM.trans (M1.trans (M2.trans mW)), ?_, .inl ⟨rfl, ?_, rfl⟩⟩
                    · exact INV_wr I' H0 (keepX_trans k1 kρ) GW DW eW kW RW (fun j hj => by
                        rw [u1 j (by omega), mk3_s]; exact k3T.1 j (by omega) (by omega) (by omega) (by omega) (by omega)) u2 (fun j hj => by
                        rw [u3 j hj, mk3_a _ _ _ _ (by omega)]; exact k3T.2.1 j (by omega))
                    · show τ'.1 0 = nI 0
                      rw [u1 0 (by omega), mk3_s]; exact y0
                  · omega
              · exact absurd e3 (q y (by rw [e1]; simp))
            · -- a new block
              rcases spot_M G.1 R2 hn2 z12 in3 z9 hl D2 hL with ⟨l1', y', l2', g1, g2, g3, spM⟩ | ⟨_, fo', spM⟩
              · exact absurd g2 (e4 y' (by rw [g1]; simp))
              · generalize hτ3 : fnd τ2 fo' (τ2.1 11) (τ2.1 13) = τ3 at *
                have k3T : keepT (stS τ 1 (nI 0)) τ3 := by rw [← hτ3]; exact keepT_trans k2T (keepT_f _ _ _ _)
                have R3 : RM nb V τ3 f := RM_kT R k3T
                have y0 : τ3.1 0 = nI 0 := by rw [← hτ3]; exact z0
                have y9 : τ3.1 9 = nI h := (k3T.1 9 (by omega) (by omega) (by omega) (by omega) (by omega)).trans h9
                have y12 : τ3.1 12 = nI n := by rw [← hτ3]; exact z12
                have y17 : ∀ j, j < n → τ3.2.1 17 j = nI (w j % 256) := by rw [← hτ3]; exact z17
                have fb := freeB_M G.1.1 R3
                have f0' := fails_0 nb (τ := XD τ3 f) y0 (nI 3)
                have f1' := fails_1 nb (τ := XD τ3 f) y0 (c := 3) (by omega) (by omega)
                rw [XD_S] at f1'
                obtain ⟨i, hi, loM⟩ := low_M G R3 (nI k) (nI 0)
                have e80 := mk_M80 (nb := nb) (i := i) (wh := nI 0) (s := XD τ3 f) hk01 y9 in3 (by rw [XD_k _ _ _ _ (by omega)]; exact (R3.2.2.1 h in3).2.2.2.1) (by omega)
                rw [if_pos rfl] at e80
                rw [e80] at loM
                have MM := mk_Mf no nmQ hM2 f0 spM loM
                have XX := mk_Xf hk01 dr nv h1 k3 nmX hX2 rmX
                have co := costOf_X G.1.1 S1 D in1 in2 hl (c := 1024) (by omega) (by omega)
                rw [hprt.1, hprt.2, hca, Nat.add_sub_cancel_left] at co
                have X77 : fXX0_make_0_77 nb (nI k) (nI n) (-nI 1) (nI k) (XD ρ d) = fXX0_make_0_103 nb (nI k) (nI n) (-nI 1) (nI (k + cost (vmn V h))) (XD ρ d) := by
                  have r1' : (XD ρ d).1 1 = nI h := r1
                  simp only [fXX0_make_0_77, lit, litN, if_true, r1', co, obs, nI_add]
                rw [X77] at XX
                by_cases cf : nfi V = 0 ∨ nfb V < k + cost (vmn V h)
                · have X4 := mk_X4 (t := n) (x := nI k) (y := -nI 1) (u := k + cost (vmn V h)) (by omega) (by omega) (by omega) fr5 fr4 cf
                  have M3 := mk_M125 (i := i) (c := cost (vmn V h)) (k := k) (x := nI k) (wh := nI 0) (s := XD τ3 f) R3.1.2.2.2.2.1 R3.1.2.2.1 rfl (by omega) (by omega) (by omega) (by omega) (by omega) fb f1' (by omega)
                  refine ⟨_, _, XX.trans X4, MM.trans M3, ?_, .inr (.inr (.inr ⟨rfl, stS_e τ3 0 (nI 3)⟩))⟩
                  exact INV_ro I' H0 k1 (keepT_trans k3T (keepT_S _ (m := 0) (nI 3) (by omega)))
                · rcases hi with ⟨lo, i12, iQ, hfi⟩ | ⟨_, q⟩
                  · obtain ⟨t, ht, rfl⟩ : ∃ t, (t = 1 ∨ t = 2) ∧ k = t - 1 := ⟨k + 1, by omega, by omega⟩
                    obtain ⟨C, e, d1, b, d2, s, d', τ4, f4, b1, b2, b3, b4, b5, b6, b7, b8, b9, b10, b11⟩ := mkB_X (w := w) (t := t) h5 G hkd (by omega) hn1 hn2 lo iQ ht S1 D T1 R3 y9 y12 y17
                    have XB := mk_XB (x := nI (t - 1)) (t := n) (u := t - 1 + cost (vmn V h)) (by omega) (by omega) (by omega) fr5 fr4 hfi (by omega) b4 r1 b5 b6
                    have M1 := mk_M181 (i := i) (c := cost (vmn V h)) (wh := nI 0) (s := XD τ3 f) ht R3.1.2.2.2.2.1 R3.1.2.2.1 rfl (by omega) iQ (by omega) (by omega) fb f0' (by omega)
                    obtain ⟨W, d'', ρ', τ', f', q, GW, eW, kW, DW, kρ, xW, RW, u1, u2, u3, mW⟩ := tail h5 G hkd i12 iQ lo.2.1 ok hnm ht b1 (fun _ => by omega) b3 S1 r1 b7 b8 (by rw [b9]; exact y9)
                    refine ⟨_, _, XX.trans (XB.trans xW), MM.trans (M1.trans (b11.trans mW)), ?_, .inl ⟨rfl, ?_, rfl⟩⟩
                    · exact INV_wr I' H0 (keepX_trans k1 kρ) GW DW eW kW RW (fun j hj => by
                        rw [u1 j (by omega), b9]; exact k3T.1 j (by omega) (by omega) (by omega) (by omega) (by omega)) u2 (fun j hj => by
                        rw [u3 j hj, b10 j hj]; exact k3T.2.1 j (by omega))
                    · show τ'.1 0 = nI 0
                      rw [u1 0 (by omega), b9]; exact y0
                  · omega
      · exact absurd ok q
    · rcases nmQ with ⟨q, _⟩ | ⟨_, nmQ⟩
      · exact absurd q ok
      · have z0 : (XD (tN τ (nI 0) w (if n ≤ 255 then n else 0)) f).1 0 = nI 0 := tN_0 τ (nI 0) w (if n ≤ 255 then n else 0)
        have f1 := fails_1 nb z0 (c := 2) (by omega) (by omega)
        rw [XD_S] at f1
        refine ⟨(3, nI 0, XD ρ d), (nI 0, _), mk_X3 dr nv h1 k3 (.inl nmX), mk_M2 no (.inl ⟨nmQ, rfl⟩) f1, ?_, .inr (.inr (.inl ⟨rfl, stS_e (tN τ (nI 0) w (if n ≤ 255 then n else 0)) 0 (nI 2)⟩))⟩
        exact INV_ro I' H0 k1 (keepT_trans kN (keepT_S _ (m := 0) (nI 2) (by omega)))
