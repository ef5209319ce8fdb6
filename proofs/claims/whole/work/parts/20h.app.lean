set_option maxRecDepth 4096 in
theorem addB_raw {nb : Nat} {V : VV} {i : Nat} (h : ∀ c, okt nb (vot V c) c) (c : Nat) : okt nb (vot (addB V i) c) c := by
  unfold addB
  split
  · rw [gB_ot]; split
    · exact okt_s (by omega) (by omega)
    · rw [gS_ot]; split
      · exact okt_s (by omega) (by omega)
      · exact h c
  · split
    · rw [gB_ot]; split
      · exact okt_s (by omega) (by omega)
      · rw [gR_ot]; split
        · exact okt_s (by omega) (by omega)
        · rw [gD_ot]; split
          · exact okt_s (by omega) (by omega)
          · exact h c
    · rw [gB_ot]; split
      · exact okt_s (by omega) (by omega)
      · exact h c
set_option maxRecDepth 4096 in
theorem addN_raw {nb : Nat} {V : VV} {i : Nat} (h : ∀ c, okt nb (vot V c) c) : ∀ n c, okt nb (vot (addN V i n) c) c := by
  intro n
  induction n with
  | zero => exact h
  | succ n ih => exact addB_raw ih
set_option maxRecDepth 4096 in
theorem pd_out {dat bl : Nat → Nat} {s : Nat} {w : Nat → Nat} {a : Nat} : ∀ n, (∀ q, q < n → a / 1024 ≠ bl ((s + q) / 1024)) → pd dat bl s w n a = dat a := by
  intro n
  induction n with
  | zero => intro _; rfl
  | succ n ih =>
    intro h
    show wr1 (pd dat bl s w n) _ (w n) a = _
    unfold wr1
    rw [if_neg]
    · exact ih (fun q hq => h q (by omega))
    · intro e
      have := h n (by omega)
      have h2 : (s + n) % 1024 < 1024 := Nat.mod_lt _ (by omega)
      omega
set_option maxRecDepth 4096 in
theorem VolR_drain {nb : Nat} {V : VV} {σ τ : XS} {d f : Nat → Nat} {h : Nat} (H : VolR nb V σ τ d f h) : VolR nb V (stS σ 8 (nI 0)) (stS τ 1 (nI 0)) d f h := by
  obtain ⟨G, hd, D, S, m1, h1, hkd, hf, R, h9, sh⟩ := H
  exact ⟨G, hd, D, S, m1, h1, hkd, hf, RM_S (by omega) R, h9, sh⟩
set_option maxRecDepth 4096 in
theorem INV_drain {nb : Nat} {σ τ : XS} (I : INV nb σ τ) : INV nb (stS σ 8 (nI 0)) (stS τ 1 (nI 0)) := by
  obtain ⟨w, r, t, t1, t2, t3, t4, t5, t6, t7⟩ := I.1
  exact INV_tape I (fun k hk => stS_k σ 8 _ hk) (fun _ _ _ => rfl) (fun k h0 h1 => stS_k τ 1 _ h1) (fun _ _ _ => rfl) rfl ⟨w, r, 0, by omega, stS_e _ _ _, stS_e _ _ _, t4, t5, t6, t7⟩
set_option maxRecDepth 4096 in
theorem fileAt_X {nb : Nat} {V : VV} {ρ : XS} {d : Nat → Nat} {h q a : Nat} (h5 : nb ≤ 512) (G : Good nb V) (D : DX nb V d) (S : Sc V ρ) (R : RdL (fl V h) ρ) (hk : vkd V h = 2) (hq : (fl V h)[q]? = some a) (E : Ent nb V h a) :
    fXX0_fileAt_0 nb (nI q) (XD ρ d) = some (if vkd V (rd4 (vdat V) a) = 2 then (3, nI 0, XD ρ d) else (0, nI (rd4 (vdat V) a), XD ρ d)) := by
  obtain ⟨hl, DI, D2, hL⟩ := dirF G hk
  have io := inodeOf_X h5 D R hL hq
  have in1 := (G.ino E.2.2.1)
  have dd := isDir_X G.1.1 S D in1.1 in1.2.1
  by_cases c : vkd V (rd4 (vdat V) a) = 2
  · rw [if_pos c] at dd ⊢
    simp only [fXX0_fileAt_0, fXX0_fileAt_0_0, io, obs, dd, lit, litN, nI10, if_false]
  · rw [if_neg c] at dd ⊢
    simp only [fXX0_fileAt_0, fXX0_fileAt_0_0, io, obs, dd, lit, litN, if_true]
set_option maxRecDepth 4096 in
theorem noFile_M {nb : Nat} {V : VV} {σ τ : XS} {d f : Nat → Nat} {h k a : Nat} {be : Int32} (h5 : nb ≤ 512) (H : VolR nb V σ τ d f h) (ha : (itm (vdat V) (fl V h))[k]? = some a) (n3 : fMX12_no_0 nb (nI k) τ = some (nI 0, XD (fnd (stS τ 0 (nI 0)) (nI a) be (nI k)) f)) (g : Nat) (hg : g = 0 ∨ g = 1) :
    fMX12_noFile_0 nb (nI k) (nI g) τ = some (if vkd V (rd4 (vdat V) a) = 1 ∧ g = 0 then (nI 0, XD (fnd (stS τ 0 (nI 0)) (nI a) be (nI k)) f) else (nI 1, XD (fnd (stS τ 0 (nI 3)) (nI a) be (nI k)) f)) := by
  obtain ⟨G, hd, D, S, m1, h1, hkd, hf, R, h9, sh⟩ := H
  obtain ⟨E, a1, a2, a3, a4, a5, a6⟩ := itmF G hkd ha
  have s10 : ∀ ρ' : XS, (XD (fnd ρ' (nI a) be (nI k)) f).1 10 = nI a := fun _ => rfl
  have fo := four_F h5 R a1
  have in1 := (G.ino E.2.2.1)
  have h4 := G.2.2.2.2.2.1.1 (rd4 (vdat V) a)
  have y6 : (XD (fnd (stS τ 0 (nI 0)) (nI a) be (nI k)) f).2.1 6 (rd4 (vdat V) a) = nI (vkd V (rd4 (vdat V) a)) := by rw [XD_k _ _ _ _ (by omega)]; exact (R.2.2.1 _ in1.2.2).1
  have t0 : ∀ v, (XD (fnd (stS τ 0 v) (nI a) be (nI k)) f).1 0 = v := fun v => tF _ _ _ _
  have f0 := fails_0 nb (t0 (nI 0)) (nI 3)
  have f1 := fails_1 nb (t0 (nI 0)) (c := 3) (by omega) (by omega)
  rw [XD_S, fnd_S0, stS_S] at f1
  by_cases c : vkd V (rd4 (vdat V) a) = 1
  · rcases hg with rfl | rfl
    · rw [if_pos ⟨c, rfl⟩]
      simp (disch := omega) only [fMX12_noFile_0, fMX12_noFile_0_0, fMX12_noFile_0_35, n3, obs, lit, litN, if_true, s10, fo, nI_ltI', nI_leI', nI_eqI, nI_clampI, n_or, if_neg, y6, c, f0]
    · rw [if_neg (fun e => by omega)]
      simp (disch := omega) only [fMX12_noFile_0, fMX12_noFile_0_0, fMX12_noFile_0_30, fMX12_noFile_0_35, fMX12_noFile_0_42, n3, obs, lit, litN, if_true, s10, fo, nI_ltI', nI_leI', nI_eqI, nI_clampI, n_or, if_neg, y6, c, f1]
  · rw [if_neg (fun e => c e.1)]
    simp (disch := omega) only [fMX12_noFile_0, fMX12_noFile_0_0, fMX12_noFile_0_30, fMX12_noFile_0_35, fMX12_noFile_0_42, n3, obs, lit, litN, if_true, s10, fo, nI_ltI', nI_leI', nI_eqI, nI_clampI, n_or, if_neg, y6, f1]
set_option maxRecDepth 4096 in
theorem noFile_N {nb : Nat} {k : Nat} {ρ τ : XS} (n3 : fMX12_no_0 nb (nI k) τ = some (nI 1, ρ)) (x : Int32) : fMX12_noFile_0 nb (nI k) x τ = some (nI 1, ρ) := by
  simp only [fMX12_noFile_0, fMX12_noFile_0_0, fMX12_noFile_0_42, n3, obs, lit, litN, nI10, if_false]
set_option maxRecDepth 4096 in
theorem needB_X {nb : Nat} {V : VV} {ρ : XS} {d : Nat → Nat} (G : Good nb V) (D : DX nb V d) (S : Sc V ρ) {n : Nat} (hn : n < 2147483648) : fXX0_needBlocks_0 nb (nI n) (XD ρ d) = some (if n ≤ nfb V then 0 else 4, XD ρ d) := by
  have fx := free4_C G.1.1 S D G.1.2.1
  have hl := nfb_lt G.1.1
  by_cases c : n ≤ nfb V
  · rw [if_pos c]
    simp (disch := omega) only [fXX0_needBlocks_0, fXX0_needBlocks_0_0, fx, obs, nI_ltI', nI_leI', nI_eqI, nI_clampI, if_pos]
  · rw [if_neg c]
    simp (disch := omega) only [fXX0_needBlocks_0, fXX0_needBlocks_0_0, fx, obs, nI_ltI', nI_leI', nI_eqI, nI_clampI, if_neg]
-- the volume after bytes have come to a file
set_option maxRecDepth 4096 in
theorem app_Good {nb : Nat} {V : VV} (G : Good nb V) {i c : Nat} (hi : vkd V i = 1) (hs : vsz V i + c < 1000000) (hf : alln (prt (vsz V i + c)) ≤ nfb V + alln (vmn V i)) (w : Nat → Nat) :
    Good nb (setR (setA (addN V i (prt (vsz V i + c) - vmn V i)) 4 i (vsz V i + c)) 15 (pd (vdat (addN V i (prt (vsz V i + c) - vmn V i))) (vbl (addN V i (prt (vsz V i + c) - vmn V i)) i) (vsz V i) w c)) := by
  have hl : live V i := .inl hi
  have hin := G.ino hl
  have hz := (G.2.2.2.1 i hl).2
  have hle : vmn V i ≤ prt (vsz V i + c) := by rw [← hz]; unfold prt; omega
  obtain ⟨A1, P1, m1, f1, E1⟩ := addN_S G.1 hin.1 hin.2.1 hl (G.2.2.2.1 i hl).1 (prt (vsz V i + c) - vmn V i) (by rw [show vmn V i + (prt (vsz V i + c) - vmn V i) = prt (vsz V i + c) by omega]; exact hf)
  rw [show vmn V i + (prt (vsz V i + c) - vmn V i) = prt (vsz V i + c) by omega] at m1
  have hraw := addN_raw (V := V) (i := i) G.2.2.2.2.2.2.1 (prt (vsz V i + c) - vmn V i)
  generalize hW : addN V i (prt (vsz V i + c) - vmn V i) = W at *
  obtain ⟨x1, x2, x3, x4, x5, x6, x7, x8, x9, x10, x11, x12, x13, x14, x15, x16, x17, x18, x19⟩ := E1
  have hlW : live W i := by unfold live; rw [x2]; exact hl
  refine Good_file (W := setR (setA W 4 i (vsz V i + c)) 15 (pd (vdat W) (vbl W i) (vsz V i) w c)) G hi A1 x1 x2 x4 x5 x8 x9 x6 x10 x11 x12 x7 (fun j hj => ?_) P1 ?_ hraw (fun j k hj hk => (x16 j k hj).1) (fun j k o lj hj hk ho => ?_)
  · obtain ⟨y1, y2, y3, y4, y5⟩ := x13 j hj
    refine ⟨y1, y2, y3, y4, y5, ?_⟩
    show (setA W 4 i (vsz V i + c)).2.1 4 j = _
    rw [setA_n _ _ _ hj]; exact congrFun x3 j
  · show prt ((setA W 4 i (vsz V i + c)).2.1 4 i) = vmn W i
    rw [setA_e, m1]
  · show pd (vdat W) (vbl W i) (vsz V i) w c (1024 * vbl V j k + o) = _
    have oj := G.1.2.2.1 j k lj hk
    have eb : (1024 * vbl V j k + o) / 1024 = vbl V j k := by omega
    rw [pd_out]
    · exact x18 _ (by rw [eb]; omega)
    · intro q hq
      rw [eb]
      intro e
      have hk' : (vsz V i + q) / 1024 < vmn W i := by rw [m1]; unfold prt; omega
      have oi := A1.2.2.1 i _ hlW hk'
      have oo := x17 (vbl V j k) (by omega)
      rw [← e] at oi
      rw [oo.2.1] at oi
      omega
