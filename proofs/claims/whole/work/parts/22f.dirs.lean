set_option maxRecDepth 4096 in
theorem par_dir {nb : Nat} {V : VV} (G : Good nb V) {i : Nat} (hl : live V i) : vkd V (vpar V i) = 2 ∧ 2 ≤ vpar V i ∧ vpar V i ≤ vQ V * vG V := by
  obtain ⟨k1, k2, k3, k4, k5, k6⟩ := G.2.2.2.2.2.1
  have e : vkd V (vpar V i) = 2 := by
    by_cases c : i = 2
    · rw [c, G.2.2.2.2.2.2.2.2.1]; exact k5
    · exact (G.2.2.2.2.2.2.2.1 i hl c).1
  have h := G.ino (i := vpar V i) (.inr e)
  refine ⟨e, ?_, h.2.1⟩
  rcases (show vpar V i = 1 ∨ 2 ≤ vpar V i by omega) with w | w
  · rw [w, k4 1 (by omega) (by omega) (by omega)] at e; omega
  · exact w
set_option maxRecDepth 4096 in
theorem fl_01 {nb : Nat} {V : VV} {i : Nat} (D : DirI nb V i) : (fl V i)[0]? = some (1024 * vbl V i 0) ∧ (fl V i)[1]? = some (1024 * vbl V i 0 + 12) := by
  obtain ⟨r, hr⟩ := D.2.1
  obtain ⟨M, hM⟩ : ∃ M, vmn V i = M + 1 := ⟨vmn V i - 1, by have := D.1.1; omega⟩
  have hflt : fl V i = (1024 * vbl V i 0) :: (1024 * vbl V i 0 + 12) :: (r ++ flt (ves V i) 1 M) := by unfold fl; rw [hM]; show ves V i 0 ++ _ = _; rw [hr]; rfl
  rw [hflt]; exact ⟨rfl, rfl⟩
set_option maxRecDepth 4096 in
theorem bnd {α β : Type} {x : Option α} {a : α} {f : α → Option β} {r : Option β} (h : x = some a) (h2 : f a = r) : x.bind f = r := by rw [h]; exact h2
set_option maxRecDepth 4096 in
theorem dotsH_X {nb : Nat} {V : VV} {d : Nat → Nat} (G : Good nb V) (D : DX nb V d) {i : Nat} (hk : vkd V i = 2) {ρ : XS} (S : Sc V ρ) (R : RdL (fl V i) ρ) : fXX7_dotsHold_10 nb (nI i) (XD ρ d) = some (nI 1, XD ρ d) := by
  have hg := G_lt G.1.1
  obtain ⟨hl, DI, D2, hL⟩ := dirF G hk
  have hin := G.ino hl
  obtain ⟨pk, p2, p3⟩ := par_dir G hl
  obtain ⟨f0, f1⟩ := fl_01 DI
  have f2 := fl_2 D2
  have fr := R.2.1
  have k10 : (nI 1 = nI 0) = False := eq_false nI10
  obtain ⟨t1, t2, t3, ⟨t4, t5, t6, t7⟩, ⟨t8, t9, t10, t11, t12⟩⟩ := DI.2.2.1
  generalize hA : 1024 * vbl V i 0 = A at *
  have e0 := entryH_X G.1.1 S D R hL f0 (fl_m4 DI.1 (get_mem f0)) (.inr ⟨by omega, by omega, by rw [t1, if_pos hk]; exact t5, fun o o1 o2 => by
    rw [t4] at o1 o2
    have : spc 1 = 12 := rfl
    exact t7 o (by omega) (by omega)⟩)
  have e1 := entryH_X G.1.1 S D R hL f1 (fl_m4 DI.1 (get_mem f1)) (.inr ⟨by omega, by omega, by rw [t2, if_pos pk]; exact t9, fun o o1 o2 => by
    have t8' : vdat V (A + 12 + 6) % 256 = 2 := t8
    rw [t8'] at o1 o2
    have : spc 2 = 12 := rfl
    rw [Nat.add_assoc]
    exact t12 (12 + o) (by omega) (by omega)⟩)
  have i0 := inodeOf_X (by omega) D R hL f0
  have l0 := lengthOf_X (by omega) D R hL f0
  have n0 := nameLen_X (by omega) D R hL f0
  have c0 := letterOf_X (by omega) D R hL f0 (by omega) (x := 0) (by omega)
  have i1 := inodeOf_X (by omega) D R hL f1
  have n1 := nameLen_X (by omega) D R hL f1
  have c1 := letterOf_X (by omega) D R hL f1 (by omega) (x := 0) (by omega)
  have c2 := letterOf_X (by omega) D R hL f1 (by omega) (x := 1) (by omega)
  rw [t1] at i0
  rw [t3] at l0
  rw [t4] at n0
  rw [t2] at i1
  rw [if_pos (by rw [t4]; omega), show A + 8 + 0 = A + 8 from rfl, t6] at c0
  have t8' : vdat V (A + 12 + 6) % 256 = 2 := t8
  have t10' : vdat V (A + 12 + 8 + 0) % 256 = 46 := t10
  have t11' : vdat V (A + 12 + 8 + 1) % 256 = 46 := t11
  rw [t8'] at n1
  rw [if_pos (by rw [t8']; omega), t10'] at c1
  rw [if_pos (by rw [t8']; omega), t11'] at c2
  have iD := isDir_X G.1.1 S D (i := vpar V i) (by omega) p3
  rw [if_pos pk] at iD
  have cnt : fXX5_count_7 nb (XD ρ d) = some (nI (fl V i).length, XD ρ d) := by simp only [fXX5_count_7, fXX5_count_7_0, cnt7 d R]
  have pa : fXX5_parent_7 nb (XD ρ d) = some (nI (vpar V i), XD ρ d) := by simp only [fXX5_parent_7, fXX5_parent_7_0, lit, litN, i1, obs]
  have hlt : ¬ nI (fl V i).length < nI 2 := by rw [nI_ltI' (by omega) (by omega)]; omega
  unfold fXX7_dotsHold_10 fXX7_dotsHold_10_0
  refine bnd cnt ((if_neg hlt).trans ?_)
  refine bnd e0 ((if_neg nI10).trans ?_)
  refine bnd e1 ((if_neg nI10).trans ?_)
  refine bnd i0 ((if_pos rfl).trans ?_)
  refine bnd l0 ((if_pos rfl).trans ?_)
  refine bnd n0 ((if_pos rfl).trans ?_)
  refine bnd c0 ((if_pos rfl).trans ?_)
  refine bnd n1 ((if_pos rfl).trans ?_)
  refine bnd c1 ((if_pos rfl).trans ?_)
  refine bnd c2 ((if_pos rfl).trans ?_)
  exact bnd pa (bnd iD (if_neg nI10))
def keepD (σ ρ : XS) : Prop := (∀ k, k ≠ 7 → ρ.1 k = σ.1 k) ∧ (∀ k, k ≠ 1 → k ≠ 4 → k ≠ 5 → ρ.2.1 k = σ.2.1 k) ∧ ρ.2.2 = σ.2.2
set_option maxRecDepth 4096 in
theorem keepD_rfl (σ : XS) : keepD σ σ := ⟨fun _ _ => rfl, fun _ _ _ _ => rfl, rfl⟩
set_option maxRecDepth 4096 in
theorem keepD_Sc {V : VV} {σ ρ : XS} (h : keepD σ ρ) (S : Sc V σ) : Sc V ρ := by
  unfold Sc; rw [h.1 2 (by omega), h.1 3 (by omega), h.1 4 (by omega), h.1 5 (by omega), h.1 6 (by omega)]; exact S
set_option maxRecDepth 4096 in
theorem keepD_step {σ ρ ρ1 ρ2 : XS} (a : keepD σ ρ) (b : keepX ρ ρ1) (c : keepH ρ1 ρ2) (j : Nat) (v : Int32) : keepD σ (stA ρ2 5 j v) :=
  ⟨fun k hk => (congrFun c.1 k).trans ((b.1 k hk).trans (a.1 k hk)), fun k k1 k4 k5 => (stA_k _ _ _ _ k5).trans ((c.2.1 k k4).trans ((b.2.1 k k1).trans (a.2.1 k k1 k4 k5))), c.2.2.trans (b.2.2.trans a.2.2)⟩
set_option maxRecDepth 4096 in
theorem dirsH_X {nb : Nat} {V : VV} (G : Good nb V) {σ : XS} {d : Nat → Nat} (S : Sc V σ) (D : DX nb V d) (h4 : ∀ j, j < 2065 → σ.2.1 4 j = nI 0) (h5 : ∀ j, j < 2065 → σ.2.1 5 j = nI 0) :
    ∃ ρ, keepD σ ρ ∧ (∀ j, j < 2065 → ρ.2.1 4 j = nI (if 12 ≤ j ∧ live V j then vpar V j else 0)) ∧ (∀ j, j < 2065 → ρ.2.1 5 j = nI (if vkd V j = 2 then vpar V j else 0)) ∧ fXX7_directoriesHold_10 nb (XD σ d) = some (nI 1, XD ρ d) := by
  have A := G.1
  have hg := G_lt A.1
  obtain ⟨k1, k2, k3, k4, k5, k6⟩ := G.2.2.2.2.2.1
  have k10 : (nI 1 = nI 0) = False := eq_false nI10
  have key : ∃ ρ, (2 ≤ vQ V * vG V + 1 ∧ keepD σ ρ ∧ (∀ j, j < 2065 → ρ.2.1 4 j = nI (if 12 ≤ j ∧ live V j ∧ vpar V j < vQ V * vG V + 1 then vpar V j else 0)) ∧ ∀ j, j < 2065 → ρ.2.1 5 j = nI (if vkd V j = 2 ∧ j < vQ V * vG V + 1 then vpar V j else 0)) ∧ ∀ u : Unit, lfix ((fun _ k2 t => fXX7_directoriesHold_10_2 nb k2 t.1 t.2) u) FU (nI 2, XD σ d) = some (nI 1, XD ρ d) := by
    refine lfor (κ := Unit) (fun _ k2 t => fXX7_directoriesHold_10_2 nb k2 t.1 t.2) (fun i (ρ : XS) => (nI i, XD ρ d)) (fun _ ρ => some (nI 1, XD ρ d)) (vQ V * vG V + 1) (fun i ρ => 2 ≤ i ∧ keepD σ ρ ∧ (∀ j, j < 2065 → ρ.2.1 4 j = nI (if 12 ≤ j ∧ live V j ∧ vpar V j < i then vpar V j else 0)) ∧ ∀ j, j < 2065 → ρ.2.1 5 j = nI (if vkd V j = 2 ∧ j < i then vpar V j else 0)) ?_ ?_ 2 σ FU (by omega) ⟨by omega, keepD_rfl σ, fun j hj => ?_, fun j hj => ?_⟩ (by unfold FU; omega)
    · rintro i ρ hi ⟨i2, kD, hH, hP⟩
      have Sρ := keepD_Sc kD S
      have iX := inodes_X A.1 Sρ d
      have iD := isDir_X A.1 Sρ D (i := i) (by omega) (by omega)
      by_cases q : vkd V i = 2
      · rw [if_pos q] at iD
        obtain ⟨hl, DI, D2, hL⟩ := dirF G q
        obtain ⟨ρ1, x1, x2, x3⟩ := read_X A (i := i) (by omega) (by omega) hl (G.2.2.2.1 i hl).1 DI.1 D2.2.1 ρ d Sρ D
        have S1 := Sc_keep x1 Sρ
        have sz := size_X A.1 S1 D (i := i) (by omega) (by omega) hl (by have := G.sz i; omega)
        have dH := dotsH_X G D q S1 x2
        have hszm : vsz V i % 1024 = 0 := by rw [DI.1.2.1]; omega
        have hsz := G.sz i
        obtain ⟨ρ2, y1, y2, y3⟩ := items1H_X G D q ((fl V i).drop 2) 2 2 FU ρ1 rfl (by omega) (fl_2 D2) (by rw [List.length_drop]; have := D2.2.1; unfold FU; omega) S1 x2 (fun j hj => by rw [x1.2.1 4 (by omega), hH j hj, HL_0 G]) (by rw [DI.2.2.2.2.2]; rfl)
        have R2 := keepH_Rd y1 x2
        have f1 := (fl_01 DI).2
        have pa := inodeOf_X (by omega) D R2 hL f1
        rw [DI.2.2.1.2.1] at pa
        refine ⟨stA ρ2 5 i (nI (vpar V i)), ⟨by omega, keepD_step kD x1 y1 i _, fun j hj => ?_, fun j hj => ?_⟩, fun _ K => ?_⟩
        · rw [stA_k _ _ _ _ (by omega), y2 j hj, HL_1]
        · rw [stA_at]
          by_cases c : j = i
          · rw [if_pos ⟨rfl, c⟩, if_pos ⟨by rw [c]; exact q, by omega⟩, c]
          · rw [if_neg (fun z => c z.2), y1.2.1 5 (by omega), x1.2.1 5 (by omega), hP j hj]
            by_cases w : vkd V j = 2 ∧ j < i
            · rw [if_pos w, if_pos ⟨w.1, by omega⟩]
            · rw [if_neg w, if_neg (fun z => w ⟨z.1, by omega⟩)]
        · simp (disch := omega) only [fXX7_directoriesHold_10_2, fXX7_directoriesHold_10_87, lit, litN, iX, obs, nI_ltI', if_neg, iD, k10, if_false, x3, sz, nI_div, nI_mul, nI_sub_dm, hszm, if_true, dH, fXX7_itemsHold_10, fXX7_itemsHold_10_0, y3, nI_leI', fXX5_parent_7, fXX5_parent_7_0, pa, nI_ltI', nI_leI', nI_eqI, nI_clampI, n_or, XD_A, nI_add]
      · rw [if_neg q] at iD
        refine ⟨ρ, ⟨by omega, kD, fun j hj => ?_, fun j hj => ?_⟩, fun _ K => ?_⟩
        · rw [hH j hj]
          by_cases w : 12 ≤ j ∧ live V j ∧ vpar V j < i
          · rw [if_pos w, if_pos ⟨w.1, w.2.1, by omega⟩]
          · rw [if_neg w, if_neg]
            intro z
            have e : vpar V j = i := by
              rcases Nat.lt_or_ge (vpar V j) i with v | v
              · exact absurd ⟨z.1, z.2.1, v⟩ w
              · omega
            have := (par_dir G z.2.1).1
            rw [e] at this; exact q this
        · rw [hP j hj]
          by_cases w : vkd V j = 2 ∧ j < i
          · rw [if_pos w, if_pos ⟨w.1, by omega⟩]
          · rw [if_neg w, if_neg]
            intro z
            have e : j = i := by
              rcases Nat.lt_or_ge j i with v | v
              · exact absurd ⟨z.1, v⟩ w
              · omega
            exact q (by rw [← e]; exact z.1)
        · simp (disch := omega) only [fXX7_directoriesHold_10_2, fXX7_directoriesHold_10_87, lit, litN, iX, obs, nI_ltI', if_neg, iD, if_true, nI_add]
    · rintro ρ ⟨i2, kD, hH, hP⟩ _ K
      have iX := inodes_X A.1 (keepD_Sc kD S) d
      simp (disch := omega) only [fXX7_directoriesHold_10_2, lit, litN, iX, obs, nI_ltI', if_pos]
    · rw [h4 j hj, if_neg]
      intro z
      have := (par_dir G z.2.1).2.1; omega
    · rw [h5 j hj, if_neg]
      intro z
      have hz := z.1
      rcases (show j = 0 ∨ j = 1 by omega) with w | w
      · rw [w, k2] at hz; omega
      · rw [w, k4 1 (by omega) (by omega) (by omega)] at hz; omega
  obtain ⟨ρ, ⟨_, a1, a2, a3⟩, h⟩ := key
  have h' := h ()
  refine ⟨ρ, a1, fun j hj => ?_, fun j hj => ?_, ?_⟩
  · rw [a2 j hj]
    by_cases w : 12 ≤ j ∧ live V j
    · rw [if_pos w, if_pos ⟨w.1, w.2, by have := (par_dir G w.2).2.2; omega⟩]
    · rw [if_neg w, if_neg (fun z => w ⟨z.1, z.2.1⟩)]
  · rw [a3 j hj]
    by_cases w : vkd V j = 2
    · rw [if_pos w, if_pos ⟨w, by have := (G.ino (i := j) (.inr w)).2.1; omega⟩]
    · rw [if_neg w, if_neg (fun z => w z.1)]
  · simp only [fXX7_directoriesHold_10, fXX7_directoriesHold_10_0, lit, litN]
    exact h'
