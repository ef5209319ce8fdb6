-- the class's inode functions
def prt (s : Nat) : Nat := (s + 1023) / 1024
set_option maxRecDepth 4096 in
theorem alln_mono {m n : Nat} (h : m ≤ n) : alln m ≤ alln n := by
  unfold alln; split <;> split <;> split <;> split <;> omega
set_option maxRecDepth 4096 in
theorem size_X {nb : Nat} {V : VV} {d : Nat → Nat} {σ : XS} (B : Bas nb V) (S : Sc V σ) (D : DX nb V d) {i : Nat} (h1 : 1 ≤ i) (h2 : i ≤ vQ V * vG V) (hl : live V i) (hv : vsz V i < 4294967296) : fXX4_size_6 nb (nI i) (XD σ d) = some (nI (vsz V i), XD σ d) := by
  have hg := G_lt B; have hA := inoA_lt B h1 h2
  have ia := inodeAt_X B S d h1 (by omega); have r := rd_sz B D h1 h2 hl hv
  simp (disch := omega) only [fXX4_size_6_0, fXX4_size_6, ia, obs, lit, litN, nI_add, get4_X, r]
set_option maxRecDepth 4096 in
theorem links_X {nb : Nat} {V : VV} {d : Nat → Nat} {σ : XS} (B : Bas nb V) (S : Sc V σ) (D : DX nb V d) {i : Nat} (h1 : 1 ≤ i) (h2 : i ≤ vQ V * vG V) (hl : live V i) (hv : vlk V i < 65536) : fXX4_links_6 nb (nI i) (XD σ d) = some (nI (vlk V i), XD σ d) := by
  have hg := G_lt B; have hA := inoA_lt B h1 h2
  have ia := inodeAt_X B S d h1 (by omega); have r := rd_lk B D h1 h2 hl hv
  simp (disch := omega) only [fXX4_links_6_0, fXX4_links_6, ia, obs, lit, litN, nI_add, get2_X, r]
set_option maxRecDepth 4096 in
theorem isDir_X {nb : Nat} {V : VV} {d : Nat → Nat} {σ : XS} (B : Bas nb V) (S : Sc V σ) (D : DX nb V d) {i : Nat} (h1 : 1 ≤ i) (h2 : i ≤ vQ V * vG V) : fXX4_isDirectory_6 nb (nI i) (XD σ d) = some (if vkd V i = 2 then nI 1 else nI 0, XD σ d) := by
  have hg := G_lt B; have hA := inoA_lt B h1 h2
  have ia := inodeAt_X B S d h1 (by omega)
  have r : rd2 d (inoA (vP V) (vG V) i) = if vkd V i = 2 then 16877 else if vkd V i = 1 then 33188 else 0 := by
    by_cases hl : live V i
    · rw [rd_mode B D h1 h2 hl]
      by_cases c : vkd V i = 2
      · rw [if_pos c, if_pos c]
      · rw [if_neg c, if_neg c, if_pos (by unfold live at hl; omega)]
    · rw [rd_dead B D h1 h2 hl, if_neg (fun e => hl (.inr e)), if_neg (fun e => hl (.inl e))]
  by_cases c : vkd V i = 2
  · rw [if_pos c] at r ⊢
    simp (disch := omega) only [fXX4_isDirectory_6_0, fXX4_isDirectory_6, ia, obs, lit, litN, get2_X, r, if_true]
  · rw [if_neg c] at r ⊢
    have hr : rd2 d (inoA (vP V) (vG V) i) ≠ 16877 := by rw [r]; split <;> omega
    have hr2 : rd2 d (inoA (vP V) (vG V) i) < 65536 := by rw [r]; split <;> omega
    clear r
    simp (disch := omega) only [fXX4_isDirectory_6_0, fXX4_isDirectory_6, ia, obs, lit, litN, get2_X, nI_eqI, hr, if_false]
set_option maxRecDepth 4096 in
theorem setSize_X {nb : Nat} {V : VV} {d : Nat → Nat} {σ : XS} (B : Bas nb V) (S : Sc V σ) (D : DX nb V d) {i : Nat} (h1 : 1 ≤ i) (h2 : i ≤ vQ V * vG V) (hl : live V i) (v : Nat) : ∃ d', DX nb (setA V 4 i v) d' ∧ fXX4_setSize_6 nb (nI i) (nI v) (XD σ d) = some (XD σ d') := by
  have hg := G_lt B; have hA := inoA_lt B h1 h2
  have ia := inodeAt_X B S d h1 (by omega)
  refine ⟨_, DX_sz B D h1 h2 hl v, ?_⟩
  simp (disch := omega) only [fXX4_setSize_6_0, fXX4_setSize_6, ia, obs, lit, litN, nI_add, put4_X, wr4_N]
set_option maxRecDepth 4096 in
theorem addLinks_X {nb : Nat} {V : VV} {d : Nat → Nat} {σ : XS} (B : Bas nb V) (S : Sc V σ) (D : DX nb V d) {i v : Nat} {δ : Int32} (h1 : 1 ≤ i) (h2 : i ≤ vQ V * vG V) (hl : live V i) (hv : vlk V i < 65536) (hd : nI (vlk V i) + δ = nI v) : ∃ d', DX nb (setA V 5 i v) d' ∧ fXX4_addLinks_6 nb (nI i) δ (XD σ d) = some (XD σ d') := by
  have hg := G_lt B; have hA := inoA_lt B h1 h2
  have ia := inodeAt_X B S d h1 (by omega); have r := rd_lk B D h1 h2 hl hv
  refine ⟨_, DX_lk B D h1 h2 hl v, ?_⟩
  simp (disch := omega) only [fXX4_addLinks_6_0, fXX4_addLinks_6, ia, obs, lit, litN, nI_add, get2_X, r, hd, put2_X, wr2_N]
set_option maxRecDepth 4096 in
theorem setTime_X {nb : Nat} {V : VV} {d : Nat → Nat} {σ : XS} (B : Bas nb V) (S : Sc V σ) (D : DX nb V d) {i w : Nat} (h1 : 1 ≤ i) (h2 : i ≤ vQ V * vG V) (hl : live V i) (hw : w < 3) (x : Int64) {v : Nat} (hx : x.toInt32 = nI v) : ∃ d', DX nb (setA V 16 (3 * i + w) v) d' ∧ fXX4_setTime_6 nb (nI i) (nI w) x (XD σ d) = some (XD σ d') := by
  have hg := G_lt B; have hA := inoA_lt B h1 h2
  have ia := inodeAt_X B S d h1 (by omega)
  refine ⟨_, DX_tm B D h1 h2 hl hw v, ?_⟩
  simp (disch := omega) only [fXX4_setTime_6_0, fXX4_setTime_6, ia, obs, lit, litN, nI_add, nI_mul, put4_X, wr4_N, hx, Nat.add_assoc]
set_option maxRecDepth 4096 in
theorem time_X {nb : Nat} {V : VV} {d : Nat → Nat} {σ : XS} (B : Bas nb V) (S : Sc V σ) (D : DX nb V d) {i w : Nat} (h1 : 1 ≤ i) (h2 : i ≤ vQ V * vG V) (hl : live V i) (hw : w < 3) (hv : vtm V (3 * i + w) < 4294967296) : fXX4_time_6 nb (nI i) (nI w) (XD σ d) = some ((nI (vtm V (3 * i + w))).toInt64 &&& 4294967295, XD σ d) := by
  have hg := G_lt B; have hA := inoA_lt B h1 h2
  have ia := inodeAt_X B S d h1 (by omega); have r := rd_tm B D h1 h2 hl hw hv
  have e1 : (8 : Int32) = nI 8 := lit 8
  have e2 : (4 : Int32) = nI 4 := lit 4
  simp (disch := omega) only [fXX4_time_6_0, fXX4_time_6, ia, obs, e1, e2, nI_add, nI_mul, Nat.add_assoc, get4_X, r]
set_option maxRecDepth 4096 in
theorem blocksFor_X (nb : Nat) (σ : XS) {s : Nat} (h : s < 2147480000) : fXX4_blocksFor nb (nI s) σ = some (nI (prt s), σ) := by
  simp (disch := omega) only [fXX4_blocksFor_0, fXX4_blocksFor, lit, litN, nI_add, nI_sub, nI_div, prt]
  rfl
set_option maxRecDepth 4096 in
theorem withInd_X (nb : Nat) (σ : XS) {n : Nat} (h : n < 2147480000) : fXX4_withIndirect nb (nI n) σ = some (nI (alln n), σ) := by
  unfold alln
  by_cases c1 : 12 < n
  · by_cases c2 : 268 < n
    · rw [if_pos c1, if_pos c2]
      simp (disch := omega) only [fXX4_withIndirect_0, fXX4_withIndirect, lit, litN, nI_ltI', nI_leI', nI_eqI, nI_clampI, if_pos, nI_add, nI_sub, nI_div]
      congr 3; omega
    · rw [if_pos c1, if_neg c2]
      simp (disch := omega) only [fXX4_withIndirect_0, fXX4_withIndirect, lit, litN, nI_ltI', nI_leI', nI_eqI, nI_clampI, if_pos, if_neg, nI_add, nI_sub, nI_div]
  · rw [if_neg c1, if_neg (by omega)]
    simp (disch := omega) only [fXX4_withIndirect_0, fXX4_withIndirect, lit, litN, nI_ltI', nI_leI', nI_eqI, nI_clampI, if_neg]
    rfl
set_option maxRecDepth 4096 in
theorem alln_big (n : Nat) : alln n ≤ 2 * n + 3 := by unfold alln; split <;> split <;> omega
set_option maxRecDepth 4096 in
theorem costOf_X {nb : Nat} {V : VV} {d : Nat → Nat} {σ : XS} (B : Bas nb V) (S : Sc V σ) (D : DX nb V d) {i c : Nat} (h1 : 1 ≤ i) (h2 : i ≤ vQ V * vG V) (hl : live V i) (hv : vsz V i < 1000000) (hc : c < 1000000) : fXX4_costOf_6 nb (nI i) (nI c) (XD σ d) = some (nI (alln (prt (vsz V i + c)) - alln (prt (vsz V i))), XD σ d) := by
  have hs := size_X B S D h1 h2 hl (by omega)
  have hp : prt (vsz V i + c) < 3000 := by unfold prt; omega
  have hp2 : prt (vsz V i) ≤ prt (vsz V i + c) := by unfold prt; omega
  have b1 := blocksFor_X nb (XD σ d) (s := vsz V i) (by omega)
  have b2 := blocksFor_X nb (XD σ d) (s := vsz V i + c) (by omega)
  have w1 := withInd_X nb (XD σ d) (n := prt (vsz V i)) (by omega)
  have w2 := withInd_X nb (XD σ d) (n := prt (vsz V i + c)) (by omega)
  have hm := alln_mono hp2
  simp (disch := omega) only [fXX4_costOf_6_0, fXX4_costOf_6, hs, obs, nI_add, b1, b2, w1, w2, nI_sub]
set_option maxRecDepth 4096 in
theorem nI_neg {n : Nat} (h1 : 2147483648 ≤ n) (h2 : n < 4294967296) : nI n < nI 0 := by
  rw [Int32.lt_iff_toInt_lt]
  have e : (nI n).toInt = ((n : Int) - 4294967296) := by
    show (Int32.ofNat n).toInt = _
    rw [Int32.toInt_ofNat', show Int32.size = 4294967296 from rfl, Int.bmod_def]; omega
  rw [e, nI_toInt (by omega)]; omega
set_option maxRecDepth 4096 in
theorem get4_T {nb : Nat} (σ : XS) (d : Nat → Nat) (hn1 : 1 ≤ nb) (hn : nb ≤ 512) (x : Int32) : ∃ v, fXX1_get4_1 nb x (XD σ d) = some (v, XD σ d) := by
  obtain ⟨n, h, rfl⟩ := nI_all x
  by_cases c : n < 2147483648
  · by_cases c2 : n + 3 < nb * 1024
    · exact ⟨_, get4_X σ d hn c2⟩
    · refine ⟨nI 0, ?_⟩
      simp (disch := omega) only [fXX1_get4_1_0, fXX1_get4_1, lit, litN, nI_sub, nI_ltI', nI_leI', nI_eqI, nI_clampI, if_neg]
  · refine ⟨nI 0, ?_⟩
    have := nI_neg (by omega) h
    simp only [fXX1_get4_1_0, fXX1_get4_1, lit, litN, this, if_true]
set_option maxRecDepth 4096 in
theorem blockOf_T {nb : Nat} {V : VV} {σ : XS} (B : Bas nb V) (S : Sc V σ) (d : Nat → Nat) {i : Nat} (h1 : 1 ≤ i) (h2 : i ≤ vQ V * vG V) (x : Int32) : ∃ v, fXX4_blockOf_6 nb (nI i) x (XD σ d) = some (v, XD σ d) := by
  have hg := G_lt B
  have ia := inodeAt_X B S d h1 (by omega)
  have hp : ∃ v, fXX4_pointerAt_6 nb (nI (inoA (vP V) (vG V) i)) x (XD σ d) = some (v, XD σ d) := by
    by_cases c1 : (12 : Int32) ≤ x
    · by_cases c2 : (268 : Int32) ≤ x
      · obtain ⟨v, hv⟩ := get4_T (nb := nb) σ d (by omega) (by omega) (nI (inoA (vP V) (vG V) i) + 92)
        obtain ⟨w, hw⟩ := get4_T (nb := nb) σ d (by omega) (by omega) ((v * 1024) + (4 * ((x - 268) / 256)))
        exact ⟨_, by simp only [fXX4_pointerAt_6_0, fXX4_pointerAt_6, c1, c2, if_true, hv, obs, hw]; rfl⟩
      · obtain ⟨v, hv⟩ := get4_T (nb := nb) σ d (by omega) (by omega) (nI (inoA (vP V) (vG V) i) + 88)
        exact ⟨_, by simp only [fXX4_pointerAt_6_0, fXX4_pointerAt_6, c1, c2, if_true, if_false, hv, obs]; rfl⟩
    · exact ⟨_, by simp only [fXX4_pointerAt_6_0, fXX4_pointerAt_6, c1, if_false]; rfl⟩
  obtain ⟨v, hv⟩ := hp
  obtain ⟨w, hw⟩ := get4_T (nb := nb) σ d (by omega) (by omega) v
  exact ⟨w, by simp only [fXX4_blockOf_6_0, fXX4_blockOf_6, ia, obs, hv, hw]⟩
set_option maxRecDepth 4096 in
theorem blockOf_X {nb : Nat} {V : VV} {d : Nat → Nat} {σ : XS} (B : Bas nb V) (S : Sc V σ) (D : DX nb V d) (O : OwnC nb V) {i n : Nat} (h1 : 1 ≤ i) (h2 : i ≤ vQ V * vG V) (hl : live V i) (P : Shp V i) (hn : n < vmn V i) : fXX4_blockOf_6 nb (nI i) (nI n) (XD σ d) = some (nI (vbl V i n), XD σ d) := by
  have hg := G_lt B
  have hmn := mn_lt B O hl
  obtain ⟨P1, P2, P3, P4⟩ := P
  have k1 : 12 ≤ n → n < 268 → vsg V i ≠ 0 := fun x y => P1.mpr (by omega)
  have k2 : 268 ≤ n → vdb V i ≠ 0 ∧ 0 < vrn V i := fun x => ⟨P2.mpr (by omega), by rw [P3, if_pos (by omega)]; omega⟩
  have ia := inodeAt_X B S d h1 (by omega)
  have pa := pointerAt_X B S D O h1 h2 hl (n := n) (by omega) k1 k2
  obtain ⟨r1, r2, _⟩ := ptr_rd B S D O h1 h2 hl hn k1 k2
  simp (disch := omega) only [fXX4_blockOf_6_0, fXX4_blockOf_6, ia, obs, pa, get4_X, r2]
set_option maxRecDepth 4096 in
theorem Stc_sz {nb : Nat} {V : VV} {i v : Nat} (A : Stc nb V) : Stc nb (setA V 4 i v) := A
set_option maxRecDepth 4096 in
theorem Stc_lk {nb : Nat} {V : VV} {i v : Nat} (A : Stc nb V) : Stc nb (setA V 5 i v) := A
set_option maxRecDepth 4096 in
theorem nfb_sz {V : VV} {i v : Nat} : nfb (setA V 4 i v) = nfb V := rfl
-- a directory's new block
set_option maxRecDepth 4096 in
theorem addDir_X {nb : Nat} {V : VV} (A : Stc nb V) {i : Nat} (h1 : 1 ≤ i) (h2 : i ≤ vQ V * vG V) (hl : live V i) (P : Shp V i) (hf : cost (vmn V i) ≤ nfb V) (hz : vsz V i = 1024 * vmn V i) (σ : XS) (d : Nat → Nat) (S : Sc V σ) (D : DX nb V d) :
    ∃ d', DX nb (setA (addB V i) 4 i (1024 * (vmn V i + 1))) d' ∧ fXX4_addDirectoryBlock_6 nb (nI i) (XD σ d) = some (nI (vbl (addB V i) i (vmn V i)), XD σ d') := by
  obtain ⟨A1, P1, m1, f1, E, _, X⟩ := addB_S A h1 h2 hl P hf
  have hg := G_lt A.1
  have hmn := mn_lt A.1 A.2.2 hl
  obtain ⟨d1, D1, g1⟩ := X σ d S D
  have hs := size_X A.1 S D h1 h2 hl (by omega)
  have hb := blocksFor_X nb (XD σ d) (s := vsz V i) (by omega)
  have hp : prt (vsz V i) = vmn V i := by unfold prt; omega
  rw [hp] at hb
  have S1 : Sc (addB V i) σ := Sc_of E.1 S
  have eQ : vQ (addB V i) = vQ V := congrFun E.1 1
  have eG : vG (addB V i) = vG V := congrFun E.1 2
  have hl1 : live (addB V i) i := by unfold live; rw [E.2.1]; exact hl
  have h21 : i ≤ vQ (addB V i) * vG (addB V i) := by rw [eQ, eG]; exact h2
  obtain ⟨d2, D2, g2⟩ := setSize_X A1.1 S1 D1 h1 h21 hl1 (1024 * (vmn V i + 1))
  have g3 := blockOf_X (V := setA (addB V i) 4 i (1024 * (vmn V i + 1))) A1.1 S1 D2 A1.2.2 h1 h21 hl1 P1 (n := vmn V i) (by show vmn V i < vmn (addB V i) i; omega)
  have g3 : fXX4_blockOf_6 nb (nI i) (nI (vmn V i)) (XD σ d2) = some (nI (vbl (addB V i) i (vmn V i)), XD σ d2) := g3
  refine ⟨d2, D2, ?_⟩
  simp (disch := omega) only [fXX4_addDirectoryBlock_6_0, fXX4_addDirectoryBlock_6, hs, obs, hb, g1, lit, litN, nI_add, nI_mul, m1024, g2, g3]
set_option maxRecDepth 4096 in
theorem nI_add_neg (a b : Nat) : nI a + -nI b = nI a - nI b := (Int32.sub_eq_add_neg _ _).symm
set_option maxRecDepth 4096 in
theorem free4_C {nb : Nat} {V : VV} {d : Nat → Nat} {σ : XS} (B : Bas nb V) (S : Sc V σ) (D : DX nb V d) (C : CntB V) : fXX3_free_4 nb (XD σ d) = some (nI (nfb V), XD σ d) := by
  have h := C 0 (by have := G_lt B; omega)
  have hl := nfb_lt B
  rw [free4_X B S D (by rw [h.1]; omega), h.1]
set_option maxRecDepth 4096 in
theorem free5_C {nb : Nat} {V : VV} {d : Nat → Nat} {σ : XS} (B : Bas nb V) (S : Sc V σ) (D : DX nb V d) (C : CntI V) : fXX3_free_5 nb (XD σ d) = some (nI (nfi V), XD σ d) := by
  have h := C 0 (by have := G_lt B; omega)
  have hl := nfb_lt B
  rw [free5_X B S D (by rw [h.1]; omega), h.1]
def dropTo (nb : Nat) (V W : VV) (i n : Nat) : Prop := Stc nb W ∧ Shp W i ∧ Cutd nb V W i n ∧ nfb W + alln n = nfb V + alln (vmn V i)
set_option maxRecDepth 4096 in
theorem shorten_X {nb : Nat} {V : VV} (A : Stc nb V) {i s : Nat} (h1 : 1 ≤ i) (h2 : i ≤ vQ V * vG V) (hl : live V i) (P : Shp V i) (hz : prt (vsz V i) = vmn V i) (hs : prt s ≤ vmn V i) (hs2 : s < 1000000) (hs3 : vsz V i < 1000000) (σ : XS) (d : Nat → Nat) (S : Sc V σ) (D : DX nb V d) :
    ∃ W d', dropTo nb V W i (prt s) ∧ DX nb (setA W 4 i s) d' ∧ fXX4_shorten_6 nb (nI i) (nI s) (XD σ d) = some (nI (alln (vmn V i) - alln (prt s)), XD σ d') := by
  have hg := G_lt A.1
  have hmn := mn_lt A.1 A.2.2 hl
  have f0 := free4_C A.1 S D A.2.1
  have hb := blocksFor_X nb (XD σ d) (s := s) (by omega)
  have hsz := size_X A.1 S D h1 h2 hl (by omega)
  have hb2 := blocksFor_X nb (XD σ d) (s := vsz V i) (by omega)
  rw [hz] at hb2
  have key : ∃ r : XS × VV × (Nat → Nat), (dropTo nb V r.2.1 i (prt s) ∧ DX nb (setA r.2.1 4 i s) r.2.2 ∧ r.1 = XD σ r.2.2) ∧ ∀ c : Unit, lfix ((fun _ k26 t => fXX4_shorten_6_26 nb k26 t.1 t.2.1 t.2.2.1 t.2.2.2.1 t.2.2.2.2.1 t.2.2.2.2.2) c) FU (nI i, nI s, nI (nfb V), nI (prt s), nI (vmn V i) - nI 1, XD σ d) = some (nI (alln (vmn V i) - alln (prt s)), r.1) := by
    refine lmea (κ := Unit) (fun _ k26 t => fXX4_shorten_6_26 nb k26 t.1 t.2.1 t.2.2.1 t.2.2.2.1 t.2.2.2.2.1 t.2.2.2.2.2) (fun q : Nat × VV × (Nat → Nat) => (nI i, nI s, nI (nfb V), nI (prt s), nI q.1 - nI 1, XD σ q.2.2)) (fun _ (r : XS × VV × (Nat → Nat)) => some (nI (alln (vmn V i) - alln (prt s)), r.1))
      (fun q => prt s ≤ q.1 ∧ q.1 ≤ vmn V i ∧ dropTo nb V q.2.1 i q.1 ∧ DX nb q.2.1 q.2.2) _ (fun q => q.1) ?_ FU (vmn V i, V, d) ⟨hs, Nat.le_refl _, ⟨A, P, Cutd_rfl A hl P, rfl⟩, D⟩ (by show vmn V i < FU; unfold FU; omega)
    rintro ⟨m, W, dw⟩ ⟨c1, c2, ⟨A1, P1, K1, N1⟩, D1⟩
    have c1 : prt s ≤ m := c1
    have c2 : m ≤ vmn V i := c2
    have K1 : Cutd nb V W i m := K1
    have N1 : nfb W + alln m = nfb V + alln (vmn V i) := N1
    have D1 : DX nb W dw := D1
    have S1 : Sc W σ := Sc_of K1.1 S
    have eQ : vQ W = vQ V := congrFun K1.1 1
    have eG : vG W = vG V := congrFun K1.1 2
    have hl1 : live W i := by unfold live; rw [K1.2.1]; exact hl
    have h21 : i ≤ vQ W * vG W := by rw [eQ, eG]; exact h2
    have hm1 : vmn W i = m := K1.2.2.2.2.2.2.2.2.2.2.2.2.2.2.1
    by_cases c : prt s = m
    · right
      obtain ⟨d2, D2, g2⟩ := setSize_X A1.1 S1 D1 h1 h21 hl1 s
      have g3 := free4_C (V := setA W 4 i s) A1.1 S1 D2 A1.2.1
      refine ⟨(XD σ d2, W, d2), ⟨⟨A1, P1, by rw [c]; exact K1, by rw [c]; exact N1⟩, D2, rfl⟩, fun _ k => ?_⟩
      have hlt : nI m - nI 1 < nI (prt s) := by
        rw [← c]
        rcases Nat.eq_zero_or_pos (prt s) with e | e
        · rw [e]; decide +kernel
        · rw [nI_sub e, nI_ltI' (by omega) (by omega)]; omega
      have g4 : fXX3_free_4 nb (XD σ d2) = some (nI (nfb W), XD σ d2) := g3
      have hmo := alln_mono c2
      have hnf : nfb V ≤ nfb W := by omega
      simp (disch := omega) only [fXX4_shorten_6_26, hlt, if_true, g2, obs, g4, nI_sub]
      rw [c]; congr 3; omega
    · left
      obtain ⟨n, rfl⟩ : ∃ n, m = n + 1 := ⟨m - 1, by omega⟩
      obtain ⟨A2, P2, n2, K2, X2⟩ := dropB_S A1 h1 h21 hl1 P1 hm1
      obtain ⟨d2, D2, g2⟩ := X2 σ dw S1 D1
      refine ⟨(n, dropB W i, d2), ⟨by show prt s ≤ n; omega, by show n ≤ vmn V i; omega, ⟨A2, P2, Cutd_trans (by omega) K1 K2, ?_⟩, D2⟩, by show n < n + 1; omega, fun _ k => ?_⟩
      · show nfb (dropB W i) + alln n = nfb V + alln (vmn V i)
        have hc := cost_alln (n := n) (by omega)
        have N1 : nfb W + alln (n + 1) = nfb V + alln (vmn V i) := N1
        have n2 : nfb (dropB W i) = nfb W + cost n := n2
        omega
      · show fXX4_shorten_6_26 nb k (nI i) (nI s) (nI (nfb V)) (nI (prt s)) (nI (n + 1) - nI 1) (XD σ dw) = k (nI i, nI s, nI (nfb V), nI (prt s), nI n - nI 1, XD σ d2)
        rw [nI_sub (a := n + 1) (b := 1) (by omega), Nat.add_sub_cancel]
        have hlt : ¬ nI n < nI (prt s) := by rw [nI_ltI' (by omega) (by omega)]; omega
        simp (disch := omega) only [fXX4_shorten_6_26, lit, litN, hlt, if_false, g2, obs, nI_add_neg]
  obtain ⟨⟨x, W, d'⟩, ⟨k1, k2, k3⟩, k4⟩ := key
  refine ⟨W, d', k1, k2, ?_⟩
  have k3 : x = XD σ d' := k3
  have k5 := k4 ()
  rw [k3] at k5
  simp only [fXX4_shorten_6, fXX4_shorten_6_0, f0, obs, hb, hsz, hb2, lit, litN]
  exact k5
