abbrev vmd (V : VV) : Nat := V.1 4
def RMs (V : VV) (τ : XS) : Prop := τ.1 2 = nI (vmd V) ∧ τ.1 4 = nI (vP V) ∧ τ.1 5 = nI (vG V) ∧ τ.1 6 = nI (vG V / 8) ∧ τ.1 7 = nI (vQ V) ∧ τ.1 8 = nI (vI V)
def fst0 (V : VV) (i : Nat) : Nat := if vmn V i = 0 then 0 else vbl V i 0
def far0 (V : VV) (i : Nat) : Nat := if vrn V i = 0 then 0 else vrw V i 0
def RM (nb : Nat) (V : VV) (τ : XS) (f : Nat → Nat) : Prop := RMs V τ ∧
  (∀ b, 1 ≤ b → b < 512 → τ.2.1 4 b = if vot V b = 0 then nI 0 else nI 1) ∧
  (∀ i, i < 2100 → τ.2.1 6 i = nI (vkd V i) ∧ τ.2.1 7 i = nI (vsz V i) ∧ τ.2.1 8 i = nI (vlk V i) ∧ τ.2.1 9 i = nI (vmn V i) ∧ τ.2.1 12 i = nI (vsg V i) ∧ τ.2.1 13 i = nI (vdb V i) ∧ τ.2.1 10 i = nI (fst0 V i) ∧ τ.2.1 14 i = nI (far0 V i)) ∧
  (∀ i, i < 2100 → live V i → 1 ≤ vmn V i → τ.2.1 11 i = nI (vbl V i (vmn V i - 1))) ∧
  (∀ i, i < 2100 → live V i → τ.2.1 15 i = nI (vpar V i)) ∧
  (∀ x, x < 6300 → τ.2.2 0 x = Int64.ofNat (vtm V x)) ∧
  (∀ i k, i < 2100 → live V i → k < vmn V i → τ.2.1 5 (vbl V i k) = nI (if k + 1 < vmn V i then vbl V i (k + 1) else 0)) ∧
  (∀ i, i < 2100 → live V i → 0 < vrn V i → τ.2.1 5 (vrw V i 0) = nI 0) ∧
  (∀ b o, b < nb → o < 1024 → vot V b = 3 → f (1024 * b + o) = vdat V (1024 * b + o))
set_option maxRecDepth 4096 in
theorem RMs_of {V W : VV} {τ : XS} (e : W.1 = V.1) (h : RMs V τ) : RMs W τ := by
  have eP : vP W = vP V := congrFun e 0
  have eQ : vQ W = vQ V := congrFun e 1
  have eG : vG W = vG V := congrFun e 2
  have eI : vI W = vI V := congrFun e 3
  have eM : vmd W = vmd V := congrFun e 4
  unfold RMs; rw [eP, eQ, eG, eI, eM]; exact h
set_option maxRecDepth 4096 in
theorem dM_z {nb : Nat} {V W : VV} {f : Nat → Nat} {b : Nat} (h : ∀ b o, b < nb → o < 1024 → vot V b = 3 → f (1024 * b + o) = vdat V (1024 * b + o)) (ho : ∀ c, c ≠ b → vot W c = vot V c) (hd : ∀ a, vdat W a = wrF (vdat V) (1024 * b) (1024 * b + 1024) 0 a) :
    ∀ c o, c < nb → o < 1024 → vot W c = 3 → wrF f (1024 * b) (1024 * b + 1024) 0 (1024 * c + o) = vdat W (1024 * c + o) := by
  intro c o hc hoo ht
  rw [hd]
  unfold wrF
  by_cases e : c = b
  · rw [if_pos (by omega), if_pos (by omega)]
  · rw [if_neg (by omega), if_neg (by omega)]; exact h c o hc hoo (by rw [← ho c e]; exact ht)
set_option maxRecDepth 4096 in
theorem RM_gS {nb : Nat} {V : VV} {τ : XS} {f : Nat → Nat} (O : OwnC nb V) (hn : nb ≤ 512) (h : RM nb V τ f) {i b : Nat} (hb : b < nb) (hlow : lowB V b) : RM nb (gS V i b) (stA (tkM τ b) 12 i (nI b)) (wrF f (1024 * b) (1024 * b + 1024) 0) := by
  obtain ⟨r1, r2, r3, r4, r5, r6, r7, r8, r9⟩ := h
  have h0 := hlow.2.1
  have ef : ∀ j, fst0 (gS V i b) j = fst0 V j := fun j => by unfold fst0; rw [gS_mn, gS_bl]
  have ea : ∀ j, far0 (gS V i b) j = far0 V j := fun j => by unfold far0; rw [gS_rn, gS_rw]
  have hl : ∀ j, live (gS V i b) j → live V j := fun j h => by unfold live at h; rw [gS_kd] at h; exact h
  refine ⟨RMs_of (gS_S V i b) r1, fun c c1 c2 => ?_, fun j hj => ?_, fun j hj lj hm => ?_, fun j hj lj => ?_, fun x hx => ?_, fun j k hj lj hk => ?_, fun j hj lj hr => ?_, dM_z r9 (fun c e => by rw [gS_ot, if_neg e]) (gS_dat V i b)⟩
  · show (if c = b then nI 1 else τ.2.1 4 c) = _
    rw [gS_ot]
    by_cases e : c = b
    · rw [if_pos e, if_pos e, if_neg (by omega)]
    · rw [if_neg e, if_neg e]; exact r2 c c1 c2
  · obtain ⟨s1, s2, s3, s4, s5, s6, s7, s8⟩ := r3 j hj
    rw [gS_kd, gS_sz, gS_lk, gS_mn, gS_sg, gS_db, ef, ea]
    refine ⟨s1, s2, s3, s4, ?_, s6, s7, s8⟩
    show (if j = i then nI b else τ.2.1 12 j) = _
    by_cases e : j = i
    · rw [if_pos e, if_pos e]
    · rw [if_neg e, if_neg e]; exact s5
  · rw [gS_mn] at hm ⊢; rw [gS_bl]; exact r4 j hj (hl j lj) hm
  · rw [gS_par]; exact r5 j hj (hl j lj)
  · rw [gS_tm]; exact r6 x hx
  · rw [gS_mn] at hk ⊢; rw [gS_bl]
    have o := O.1 j k (hl j lj) hk
    have e : vbl V j k ≠ b := fun e => by rw [e] at o; omega
    show (if vbl V j k = b then nI 0 else τ.2.1 5 (vbl V j k)) = _
    rw [if_neg e]; exact r7 j k hj (hl j lj) hk
  · rw [gS_rn] at hr; rw [gS_rw]
    have o := O.2.2.2.2.2.2.1 j 0 (hl j lj) hr
    have e : vrw V j 0 ≠ b := fun e => by rw [e] at o; omega
    show (if vrw V j 0 = b then nI 0 else τ.2.1 5 (vrw V j 0)) = _
    rw [if_neg e]; exact r8 j hj (hl j lj) hr
set_option maxRecDepth 4096 in
theorem RM_gD {nb : Nat} {V : VV} {τ : XS} {f : Nat → Nat} (O : OwnC nb V) (hn : nb ≤ 512) (h : RM nb V τ f) {i b : Nat} (hb : b < nb) (hlow : lowB V b) : RM nb (gD V i b) (stA (tkM τ b) 13 i (nI b)) (wrF f (1024 * b) (1024 * b + 1024) 0) := by
  obtain ⟨r1, r2, r3, r4, r5, r6, r7, r8, r9⟩ := h
  have h0 := hlow.2.1
  have ef : ∀ j, fst0 (gD V i b) j = fst0 V j := fun j => by unfold fst0; rw [gD_mn, gD_bl]
  have ea : ∀ j, far0 (gD V i b) j = far0 V j := fun j => by unfold far0; rw [gD_rn, gD_rw]
  have hl : ∀ j, live (gD V i b) j → live V j := fun j h => by unfold live at h; rw [gD_kd] at h; exact h
  refine ⟨RMs_of (gD_S V i b) r1, fun c c1 c2 => ?_, fun j hj => ?_, fun j hj lj hm => ?_, fun j hj lj => ?_, fun x hx => ?_, fun j k hj lj hk => ?_, fun j hj lj hr => ?_, dM_z r9 (fun c e => by rw [gD_ot, if_neg e]) (gD_dat V i b)⟩
  · show (if c = b then nI 1 else τ.2.1 4 c) = _
    rw [gD_ot]
    by_cases e : c = b
    · rw [if_pos e, if_pos e, if_neg (by omega)]
    · rw [if_neg e, if_neg e]; exact r2 c c1 c2
  · obtain ⟨s1, s2, s3, s4, s5, s6, s7, s8⟩ := r3 j hj
    rw [gD_kd, gD_sz, gD_lk, gD_mn, gD_sg, gD_db, ef, ea]
    refine ⟨s1, s2, s3, s4, s5, ?_, s7, s8⟩
    show (if j = i then nI b else τ.2.1 13 j) = _
    by_cases e : j = i
    · rw [if_pos e, if_pos e]
    · rw [if_neg e, if_neg e]; exact s6
  · rw [gD_mn] at hm ⊢; rw [gD_bl]; exact r4 j hj (hl j lj) hm
  · rw [gD_par]; exact r5 j hj (hl j lj)
  · rw [gD_tm]; exact r6 x hx
  · rw [gD_mn] at hk ⊢; rw [gD_bl]
    have o := O.1 j k (hl j lj) hk
    have e : vbl V j k ≠ b := fun e => by rw [e] at o; omega
    show (if vbl V j k = b then nI 0 else τ.2.1 5 (vbl V j k)) = _
    rw [if_neg e]; exact r7 j k hj (hl j lj) hk
  · rw [gD_rn] at hr; rw [gD_rw]
    have o := O.2.2.2.2.2.2.1 j 0 (hl j lj) hr
    have e : vrw V j 0 ≠ b := fun e => by rw [e] at o; omega
    show (if vrw V j 0 = b then nI 0 else τ.2.1 5 (vrw V j 0)) = _
    rw [if_neg e]; exact r8 j hj (hl j lj) hr
set_option maxRecDepth 4096 in
theorem RM_gR {nb : Nat} {V : VV} {τ : XS} {f : Nat → Nat} (O : OwnC nb V) (hn : nb ≤ 512) (h : RM nb V τ f) {i b : Nat} (hb : b < nb) (hlow : lowB V b) (hrn : vrn V i = 0) : RM nb (gR V i b) (stA (tkM τ b) 14 i (nI b)) (wrF f (1024 * b) (1024 * b + 1024) 0) := by
  obtain ⟨r1, r2, r3, r4, r5, r6, r7, r8, r9⟩ := h
  have h0 := hlow.2.1
  have ef : ∀ j, fst0 (gR V i b) j = fst0 V j := fun j => by unfold fst0; rw [gR_mn, gR_bl]
  have ea : ∀ j, far0 (gR V i b) j = if j = i then b else far0 V j := fun j => by
    unfold far0; rw [gR_rn, gR_rw, hrn]
    by_cases e : j = i
    · rw [if_pos e, if_pos e, if_neg (by omega), if_pos ⟨e, rfl⟩]
    · rw [if_neg e, if_neg e]; simp only [e, false_and, if_false]
  have hl : ∀ j, live (gR V i b) j → live V j := fun j h => by unfold live at h; rw [gR_kd] at h; exact h
  refine ⟨RMs_of (gR_S V i b) r1, fun c c1 c2 => ?_, fun j hj => ?_, fun j hj lj hm => ?_, fun j hj lj => ?_, fun x hx => ?_, fun j k hj lj hk => ?_, fun j hj lj hr => ?_, dM_z r9 (fun c e => by rw [gR_ot, if_neg e]) (gR_dat V i b)⟩
  · show (if c = b then nI 1 else τ.2.1 4 c) = _
    rw [gR_ot]
    by_cases e : c = b
    · rw [if_pos e, if_pos e, if_neg (by omega)]
    · rw [if_neg e, if_neg e]; exact r2 c c1 c2
  · obtain ⟨s1, s2, s3, s4, s5, s6, s7, s8⟩ := r3 j hj
    rw [gR_kd, gR_sz, gR_lk, gR_mn, gR_sg, gR_db, ef, ea]
    refine ⟨s1, s2, s3, s4, s5, s6, s7, ?_⟩
    show (if j = i then nI b else τ.2.1 14 j) = _
    by_cases e : j = i
    · rw [if_pos e, if_pos e]
    · rw [if_neg e, if_neg e]; exact s8
  · rw [gR_mn] at hm ⊢; rw [gR_bl]; exact r4 j hj (hl j lj) hm
  · rw [gR_par]; exact r5 j hj (hl j lj)
  · rw [gR_tm]; exact r6 x hx
  · rw [gR_mn] at hk ⊢; rw [gR_bl]
    have o := O.1 j k (hl j lj) hk
    have e : vbl V j k ≠ b := fun e => by rw [e] at o; omega
    show (if vbl V j k = b then nI 0 else τ.2.1 5 (vbl V j k)) = _
    rw [if_neg e]; exact r7 j k hj (hl j lj) hk
  · rw [gR_rn] at hr; rw [gR_rw, hrn]
    by_cases ej : j = i
    · rw [if_pos ⟨ej, rfl⟩]
      show (if b = b then nI 0 else τ.2.1 5 b) = _
      rw [if_pos rfl]
    · rw [if_neg ej] at hr
      simp only [ej, false_and, if_false]
      have o := O.2.2.2.2.2.2.1 j 0 (hl j lj) hr
      have e : vrw V j 0 ≠ b := fun e => by rw [e] at o; omega
      show (if vrw V j 0 = b then nI 0 else τ.2.1 5 (vrw V j 0)) = _
      rw [if_neg e]; exact r8 j hj (hl j lj) hr
def gbM (τ : XS) (i n l b : Nat) : XS := stA (stA (if n = 0 then stA (tkM τ b) 10 i (nI b) else stA (tkM τ b) 5 l (nI b)) 11 i (nI b)) 9 i (nI (n + 1))
set_option maxRecDepth 4096 in
theorem gbM_s (τ : XS) (i n l b : Nat) : (gbM τ i n l b).1 = τ.1 := by unfold gbM; split <;> rfl
set_option maxRecDepth 4096 in
theorem gbM_a (τ : XS) (i n l b k : Nat) (h4 : k ≠ 4) (h5 : k ≠ 5) (h9 : k ≠ 9) (h10 : k ≠ 10) (h11 : k ≠ 11) : (gbM τ i n l b).2.1 k = τ.2.1 k := by
  have e : ∀ (ρ : XS) (m x : Nat) (v : Int32), k ≠ m → (stA ρ m x v).2.1 k = ρ.2.1 k := fun ρ m x v h => va_up_ne _ _ h
  unfold gbM tkM; split <;> rw [e _ _ _ _ h9, e _ _ _ _ h11] <;> rw [e _ _ _ _ (by omega), e _ _ _ _ h5, e _ _ _ _ h4]
set_option maxRecDepth 4096 in
theorem gbM_4 (τ : XS) (i n l b c : Nat) : (gbM τ i n l b).2.1 4 c = if c = b then nI 1 else τ.2.1 4 c := by unfold gbM; split <;> rfl
set_option maxRecDepth 4096 in
theorem gbM_9 (τ : XS) (i n l b c : Nat) : (gbM τ i n l b).2.1 9 c = if c = i then nI (n + 1) else τ.2.1 9 c := by unfold gbM; split <;> rfl
set_option maxRecDepth 4096 in
theorem gbM_11 (τ : XS) (i n l b c : Nat) : (gbM τ i n l b).2.1 11 c = if c = i then nI b else τ.2.1 11 c := by unfold gbM; split <;> rfl
set_option maxRecDepth 4096 in
theorem gbM_10 (τ : XS) (i n l b c : Nat) : (gbM τ i n l b).2.1 10 c = if n = 0 ∧ c = i then nI b else τ.2.1 10 c := by
  unfold gbM; by_cases h : n = 0
  · rw [if_pos h]; show (if c = i then nI b else τ.2.1 10 c) = _; simp only [h, true_and]
  · rw [if_neg h]; show τ.2.1 10 c = _; simp only [h, false_and, if_false]
set_option maxRecDepth 4096 in
theorem gbM_5 (τ : XS) (i n l b c : Nat) : (gbM τ i n l b).2.1 5 c = if n ≠ 0 ∧ c = l then nI b else if c = b then nI 0 else τ.2.1 5 c := by
  unfold gbM; by_cases h : n = 0
  · rw [if_pos h]; show (if c = b then nI 0 else τ.2.1 5 c) = _; simp only [h, ne_eq, not_true, false_and, if_false]
  · rw [if_neg h]; show (if c = l then nI b else if c = b then nI 0 else τ.2.1 5 c) = _; simp only [h, ne_eq, not_false_eq_true, true_and]
set_option maxRecDepth 4096 in
theorem gbM_l (τ : XS) (i n l b : Nat) : (gbM τ i n l b).2.2 = τ.2.2 := by unfold gbM; split <;> rfl
set_option maxRecDepth 4096 in
theorem RM_gB {nb : Nat} {V : VV} {τ : XS} {f : Nat → Nat} (O : OwnC nb V) (hn : nb ≤ 512) (h : RM nb V τ f) {i b : Nat} (hb : b < nb) (hlow : lowB V b) (hli : live V i) : RM nb (gB V i b) (gbM τ i (vmn V i) (vbl V i (vmn V i - 1)) b) (wrF f (1024 * b) (1024 * b + 1024) 0) := by
  obtain ⟨r1, r2, r3, r4, r5, r6, r7, r8, r9⟩ := h
  have h0 := hlow.2.1
  have ef : ∀ j, fst0 (gB V i b) j = if vmn V i = 0 ∧ j = i then b else fst0 V j := fun j => by
    unfold fst0; rw [gB_mn, gB_bl]
    by_cases e : j = i
    · subst e
      simp only [if_true, and_true, true_and]
      by_cases e2 : vmn V j = 0
      · rw [if_neg (by omega), if_pos e2.symm, if_pos e2]
      · rw [if_neg (by omega), if_neg (by omega), if_neg e2, if_neg e2]
    · simp only [e, and_false, false_and, if_false]
  have ea : ∀ j, far0 (gB V i b) j = far0 V j := fun j => by unfold far0; rw [gB_rn, gB_rw]
  have hl : ∀ j, live (gB V i b) j → live V j := fun j h => by unfold live at h; rw [gB_kd] at h; exact h
  refine ⟨?_, fun c c1 c2 => ?_, fun j hj => ?_, fun j hj lj hm => ?_, fun j hj lj => ?_, fun x hx => ?_, fun j k hj lj hk => ?_, fun j hj lj hr => ?_, dM_z r9 (fun c e => by rw [gB_ot, if_neg e]) (gB_dat V i b)⟩
  · have := RMs_of (gB_S V i b) r1; unfold RMs at this ⊢; rw [gbM_s]; exact this
  · rw [gbM_4, gB_ot]
    by_cases e : c = b
    · rw [if_pos e, if_pos e, if_neg (by omega)]
    · rw [if_neg e, if_neg e]; exact r2 c c1 c2
  · obtain ⟨s1, s2, s3, s4, s5, s6, s7, s8⟩ := r3 j hj
    rw [gB_kd, gB_sz, gB_lk, gB_mn, gB_sg, gB_db, ef, ea, gbM_9, gbM_10]
    rw [gbM_a _ _ _ _ _ 6 (by omega) (by omega) (by omega) (by omega) (by omega), gbM_a _ _ _ _ _ 7 (by omega) (by omega) (by omega) (by omega) (by omega), gbM_a _ _ _ _ _ 8 (by omega) (by omega) (by omega) (by omega) (by omega), gbM_a _ _ _ _ _ 12 (by omega) (by omega) (by omega) (by omega) (by omega), gbM_a _ _ _ _ _ 13 (by omega) (by omega) (by omega) (by omega) (by omega), gbM_a _ _ _ _ _ 14 (by omega) (by omega) (by omega) (by omega) (by omega)]
    refine ⟨s1, s2, s3, ?_, s5, s6, ?_, s8⟩
    · by_cases e : j = i
      · rw [if_pos e, if_pos e]
      · rw [if_neg e, if_neg e]; exact s4
    · by_cases e : vmn V i = 0 ∧ j = i
      · rw [if_pos e, if_pos e]
      · rw [if_neg e, if_neg e]; exact s7
  · rw [gbM_11, gB_mn] at *
    by_cases e : j = i
    · rw [if_pos e, if_pos e, gB_bl, if_pos ⟨e, by omega⟩]
    · rw [if_neg e] at hm ⊢; rw [if_neg e, gB_bl, if_neg (fun x => e x.1)]; exact r4 j hj (hl j lj) hm
  · rw [gB_par, gbM_a _ _ _ _ _ 15 (by omega) (by omega) (by omega) (by omega) (by omega)]; exact r5 j hj (hl j lj)
  · rw [gB_tm, gbM_l]; exact r6 x hx
  · have lj' := hl j lj
    have hbe : vbl (gB V i b) i (vmn V i) = b := by rw [gB_bl, if_pos ⟨rfl, rfl⟩]
    have hbn : ∀ j k, (j ≠ i ∨ k ≠ vmn V i) → vbl (gB V i b) j k = vbl V j k := fun j k h => by rw [gB_bl, if_neg (by omega)]
    by_cases ej : j = i
    · subst ej
      rw [gB_mn, if_pos rfl] at hk ⊢
      by_cases ek : k = vmn V j
      · subst ek
        rw [hbe, gbM_5, if_neg (show ¬ vmn V j + 1 < vmn V j + 1 by omega)]
        by_cases e0 : vmn V j = 0
        · rw [if_neg (fun x => x.1 e0), if_pos rfl]
        · have o := O.1 j (vmn V j - 1) lj' (by omega)
          have e : b ≠ vbl V j (vmn V j - 1) := fun e => by rw [← e] at o; omega
          rw [if_neg (fun x => e x.2), if_pos rfl]
      · have o := O.1 j k lj' (by omega)
        have ne : vbl V j k ≠ b := fun e => by rw [e] at o; omega
        rw [hbn j k (.inr ek), gbM_5]
        by_cases el : k = vmn V j - 1
        · have ek1 : k + 1 = vmn V j := by omega
          rw [if_pos ⟨by omega, by rw [el]⟩, if_pos (show k + 1 < vmn V j + 1 by omega), ek1, hbe]
        · have o2 := O.1 j (vmn V j - 1) lj' (by omega)
          have ne2 : vbl V j k ≠ vbl V j (vmn V j - 1) := fun e => by
            have h1 := o.2.2.2.2; have h2 := o2.2.2.2.2; rw [e, h2] at h1; omega
          rw [if_neg (fun x => ne2 x.2), if_neg ne, if_pos (show k + 1 < vmn V j + 1 by omega), hbn j (k + 1) (.inr (by omega))]
          have := r7 j k hj lj' (by omega)
          rw [if_pos (by omega)] at this; exact this
    · rw [gB_mn, if_neg ej] at hk ⊢
      have o := O.1 j k lj' hk
      have ne : vbl V j k ≠ b := fun e => by rw [e] at o; omega
      have ne2 : ¬ (vmn V i ≠ 0 ∧ vbl V j k = vbl V i (vmn V i - 1)) := by
        rintro ⟨x, y⟩
        have o2 := O.1 i (vmn V i - 1) hli (by omega)
        rw [← y] at o2; omega
      rw [hbn j k (.inl ej), hbn j (k + 1) (.inl ej), gbM_5, if_neg ne2, if_neg ne]
      exact r7 j k hj lj' hk
  · rw [gB_rn] at hr; rw [gB_rw, gbM_5]
    have o := O.2.2.2.2.2.2.1 j 0 (hl j lj) hr
    have e : vrw V j 0 ≠ b := fun e => by rw [e] at o; omega
    rw [if_neg, if_neg e]
    · exact r8 j hj (hl j lj) hr
    · rintro ⟨x, y⟩
      have o2 := O.1 i (vmn V i - 1) hli (by omega)
      rw [← y] at o2; omega
