set_option maxRecDepth 4096 in
theorem RM_tau {nb : Nat} {V : VV} {τ τ' : XS} {f : Nat → Nat} (h : RM nb V τ f) (h1 : ∀ k, (k = 2 ∨ (4 ≤ k ∧ k ≤ 8)) → τ'.1 k = τ.1 k) (h2 : ∀ k, 4 ≤ k → k ≤ 15 → τ'.2.1 k = τ.2.1 k) (h3 : τ'.2.2 = τ.2.2) : RM nb V τ' f := by
  obtain ⟨⟨a1, a2, a3, a4, a5, a6⟩, r2, r3, r4, r5, r6, r7, r8, r9⟩ := h
  refine ⟨⟨?_, ?_, ?_, ?_, ?_, ?_⟩, ?_, ?_, ?_, ?_, ?_, ?_, ?_, r9⟩
  · rw [h1 2 (by omega)]; exact a1
  · rw [h1 4 (by omega)]; exact a2
  · rw [h1 5 (by omega)]; exact a3
  · rw [h1 6 (by omega)]; exact a4
  · rw [h1 7 (by omega)]; exact a5
  · rw [h1 8 (by omega)]; exact a6
  · rw [h2 4 (by omega) (by omega)]; exact r2
  · rw [h2 6 (by omega) (by omega), h2 7 (by omega) (by omega), h2 8 (by omega) (by omega), h2 9 (by omega) (by omega), h2 12 (by omega) (by omega), h2 13 (by omega) (by omega), h2 10 (by omega) (by omega), h2 14 (by omega) (by omega)]; exact r3
  · rw [h2 11 (by omega) (by omega)]; exact r4
  · rw [h2 15 (by omega) (by omega)]; exact r5
  · rw [h3]; exact r6
  · rw [h2 5 (by omega) (by omega)]; exact r7
  · rw [h2 5 (by omega) (by omega)]; exact r8
set_option maxRecDepth 4096 in
theorem stS_k (τ : XS) (m : Nat) (v : Int32) {k : Nat} (h : k ≠ m) : (stS τ m v).1 k = τ.1 k := by show upd τ.1 m v k = _; unfold upd; rw [if_neg h]
set_option maxRecDepth 4096 in
theorem stS_e (τ : XS) (m : Nat) (v : Int32) : (stS τ m v).1 m = v := by show upd τ.1 m v m = _; unfold upd; rw [if_pos rfl]
set_option maxRecDepth 4096 in
theorem RM_S {nb : Nat} {V : VV} {τ : XS} {f : Nat → Nat} {m : Nat} {v : Int32} (hm : m ≠ 2 ∧ (m < 4 ∨ 8 < m)) (h : RM nb V τ f) : RM nb V (stS τ m v) f := RM_tau h (fun k hk => stS_k τ m v (by omega)) (fun _ _ _ => rfl) rfl
set_option maxRecDepth 4096 in
theorem RM_dat {nb : Nat} {V : VV} {τ : XS} {f f' F : Nat → Nat} (h : RM nb V τ f) (hd : ∀ b o, b < nb → o < 1024 → vot V b = 3 → f' (1024 * b + o) = F (1024 * b + o)) : RM nb (setR V 15 F) τ f' := by
  obtain ⟨r1, r2, r3, r4, r5, r6, r7, r8, r9⟩ := h
  exact ⟨r1, r2, r3, r4, r5, r6, r7, r8, hd⟩
set_option maxRecDepth 4096 in
theorem RM_loc {nb : Nat} {V : VV} {τ : XS} {f : Nat → Nat} {b : Nat} {G : (Nat → Nat) → Nat → Nat} (h : RM nb V τ f) (hG : Loc b G) : RM nb (setR V 15 (G (vdat V))) τ (G f) :=
  RM_dat h (fun c o hc ho ht => (hG f _).2 _ (h.2.2.2.2.2.2.2.2 c o hc ho ht))
set_option maxRecDepth 4096 in
theorem RM_sz {nb : Nat} {V : VV} {τ : XS} {f : Nat → Nat} (h : RM nb V τ f) (i v : Nat) : RM nb (setA V 4 i v) (stA τ 7 i (nI v)) f := by
  obtain ⟨r1, r2, r3, r4, r5, r6, r7, r8, r9⟩ := h
  refine ⟨r1, r2, fun j hj => ?_, r4, r5, r6, r7, r8, r9⟩
  obtain ⟨s1, s2, s3, s4, s5, s6, s7, s8⟩ := r3 j hj
  refine ⟨s1, ?_, s3, s4, s5, s6, s7, s8⟩
  rw [stA_at]
  by_cases c : j = i
  · rw [if_pos ⟨rfl, c⟩, c]; congr 1; exact (setA_e V 4 i v).symm
  · rw [if_neg (fun e => c e.2), s2]; congr 1; exact (setA_n V 4 v c).symm
set_option maxRecDepth 4096 in
theorem RM_lk {nb : Nat} {V : VV} {τ : XS} {f : Nat → Nat} (h : RM nb V τ f) (i v : Nat) : RM nb (setA V 5 i v) (stA τ 8 i (nI v)) f := by
  obtain ⟨r1, r2, r3, r4, r5, r6, r7, r8, r9⟩ := h
  refine ⟨r1, r2, fun j hj => ?_, r4, r5, r6, r7, r8, r9⟩
  obtain ⟨s1, s2, s3, s4, s5, s6, s7, s8⟩ := r3 j hj
  refine ⟨s1, s2, ?_, s4, s5, s6, s7, s8⟩
  rw [stA_at]
  by_cases c : j = i
  · rw [if_pos ⟨rfl, c⟩, c]; congr 1; exact (setA_e V 5 i v).symm
  · rw [if_neg (fun e => c e.2), s3]; congr 1; exact (setA_n V 5 v c).symm
set_option maxRecDepth 4096 in
theorem num_ext {p : Nat → Nat} {n : Nat} : ∀ m, (∀ j, n ≤ j → j < n + m → p j = 0) → num p (n + m) = num p n := by
  intro m
  induction m with
  | zero => intro _; rfl
  | succ m ih => intro h; show num p (n + m) + p (n + m) = num p n; rw [ih (fun j h1 h2 => h j h1 (by omega)), h (n + m) (by omega) (by omega)]; rfl
set_option maxRecDepth 4096 in
theorem freeB_M {nb : Nat} {V : VV} (B : Bas nb V) {τ : XS} {f : Nat → Nat} (R : RM nb V τ f) : fMX12_freeBlocks_0 nb (XD τ f) = some (nI (nfb V), XD τ f) := by
  have hg := G_lt B
  have hq := QP_lt B
  have e : nfb V = num (fun k => pfb V (1 + k)) (nb - 1) := by
    unfold nfb
    have := num_ext (p := fun k => pfb V (1 + k)) (n := nb - 1) (vQ V * vP V - (nb - 1)) (fun j h1 h2 => by
      show pfb V (1 + j) = 0
      unfold pfb; rw [if_neg (by have := B.2.2.2 (1 + j) (by omega); omega)])
    rw [show nb - 1 + (vQ V * vP V - (nb - 1)) = vQ V * vP V by omega] at this
    exact this
  have key : ∃ r : Unit, True ∧ ∀ u : Unit, lfix ((fun _ k4 t => fMX12_freeBlocks_0_4 nb k4 t.1 t.2.1 t.2.2) u) FU (nI 0, nI 1, XD τ f) = some (nI (nfb V), XD τ f) := by
    refine lmea (κ := Unit) (fun _ k4 t => fMX12_freeBlocks_0_4 nb k4 t.1 t.2.1 t.2.2) (fun k : Nat => (nI (num (fun k => pfb V (1 + k)) k), nI (1 + k), XD τ f)) (fun _ (_ : Unit) => some (nI (nfb V), XD τ f)) (fun k => k ≤ nb - 1) (fun _ => True) (fun k => nb - 1 - k) ?_ FU 0 (Nat.zero_le _) (by show nb - 1 - 0 < FU; unfold FU; omega)
    intro k hk
    by_cases c : k = nb - 1
    · right
      refine ⟨(), trivial, fun _ K => ?_⟩
      subst c
      simp (disch := omega) only [fMX12_freeBlocks_0_4, lit, litN, nI_ltI', nI_leI', nI_eqI, nI_clampI, if_pos]
      rw [e]
    · left
      have u := R.2.1 (1 + k) (by omega) (by omega)
      have u' : (XD τ f).2.1 4 (1 + k) = τ.2.1 4 (1 + k) := XD_k _ _ _ _ (by omega)
      refine ⟨k + 1, by omega, by show nb - 1 - (k + 1) < nb - 1 - k; omega, fun _ K => ?_⟩
      show fMX12_freeBlocks_0_4 nb K (nI (num (fun k => pfb V (1 + k)) k)) (nI (1 + k)) (XD τ f) = K (nI (num (fun k => pfb V (1 + k)) k + pfb V (1 + k)), nI (1 + (k + 1)), XD τ f)
      by_cases c2 : vot V (1 + k) = 0
      · rw [if_pos c2] at u
        have ep : pfb V (1 + k) = 1 := by unfold pfb; rw [if_pos c2]
        simp (disch := omega) only [fMX12_freeBlocks_0_4, fMX12_freeBlocks_0_27, lit, litN, nI_ltI', nI_leI', nI_eqI, nI_clampI, n_or, if_neg, u', u, if_true, nI_add, ep, Nat.add_assoc]
      · rw [if_neg c2] at u
        have ep : pfb V (1 + k) = 0 := by unfold pfb; rw [if_neg c2]
        simp (disch := omega) only [fMX12_freeBlocks_0_4, fMX12_freeBlocks_0_27, lit, litN, nI_ltI', nI_leI', nI_eqI, nI_clampI, n_or, if_neg, u', u, nI_add, ep, Nat.add_assoc]
  obtain ⟨_, _, h⟩ := key
  have h' := h ()
  simp only [fMX12_freeBlocks_0, fMX12_freeBlocks_0_0, lit, litN]
  exact h'
set_option maxRecDepth 4096 in
theorem freeI_M {nb : Nat} {V : VV} (B : Bas nb V) {τ : XS} {f : Nat → Nat} (R : RM nb V τ f) (hk4 : ∀ i, vkd V i < 4) : fMX12_freeInodes_0 nb (XD τ f) = some (nI (nfi V), XD τ f) := by
  have hg := G_lt B
  have s7 : (XD τ f).1 7 = nI (vQ V) := R.1.2.2.2.2.1
  have s5 : (XD τ f).1 5 = nI (vG V) := R.1.2.2.1
  have key : ∃ r : Unit, True ∧ ∀ u : Unit, lfix ((fun _ k4 t => fMX12_freeInodes_0_4 nb k4 t.1 t.2.1 t.2.2) u) FU (nI 0, nI 1, XD τ f) = some (nI (nfi V), XD τ f) := by
    refine lmea (κ := Unit) (fun _ k4 t => fMX12_freeInodes_0_4 nb k4 t.1 t.2.1 t.2.2) (fun k : Nat => (nI (num (fun k => pfi V (1 + k)) k), nI (1 + k), XD τ f)) (fun _ (_ : Unit) => some (nI (nfi V), XD τ f)) (fun k => k ≤ vQ V * vG V) (fun _ => True) (fun k => vQ V * vG V - k) ?_ FU 0 (Nat.zero_le _) (by show vQ V * vG V - 0 < FU; unfold FU; omega)
    intro k hk
    by_cases c : k = vQ V * vG V
    · right
      refine ⟨(), trivial, fun _ K => ?_⟩
      subst c
      simp (disch := omega) only [fMX12_freeInodes_0_4, s7, s5, nI_mul, lit, litN, nI_ltI', nI_leI', nI_eqI, nI_clampI, if_pos]
      rfl
    · left
      have u := (R.2.2.1 (1 + k) (by omega)).1
      have u' : (XD τ f).2.1 6 (1 + k) = τ.2.1 6 (1 + k) := XD_k _ _ _ _ (by omega)
      have h4 := hk4 (1 + k)
      refine ⟨k + 1, by omega, by show vQ V * vG V - (k + 1) < vQ V * vG V - k; omega, fun _ K => ?_⟩
      show fMX12_freeInodes_0_4 nb K (nI (num (fun k => pfi V (1 + k)) k)) (nI (1 + k)) (XD τ f) = K (nI (num (fun k => pfi V (1 + k)) k + pfi V (1 + k)), nI (1 + (k + 1)), XD τ f)
      by_cases c2 : vkd V (1 + k) = 0
      · have ep : pfi V (1 + k) = 1 := by unfold pfi; rw [if_pos c2]
        rw [c2] at u
        simp (disch := omega) only [fMX12_freeInodes_0_4, fMX12_freeInodes_0_32, s7, s5, nI_mul, lit, litN, nI_ltI', nI_leI', nI_eqI, nI_clampI, n_or, if_neg, u', u, if_true, nI_add, ep, Nat.add_assoc]
      · have ep : pfi V (1 + k) = 0 := by unfold pfi; rw [if_neg c2]
        simp (disch := omega) only [fMX12_freeInodes_0_4, fMX12_freeInodes_0_32, s7, s5, nI_mul, lit, litN, nI_ltI', nI_leI', nI_eqI, nI_clampI, n_or, if_neg, u', u, nI_add, ep, Nat.add_assoc]
  obtain ⟨_, _, h⟩ := key
  have h' := h ()
  simp only [fMX12_freeInodes_0, fMX12_freeInodes_0_0, lit, litN]
  exact h'
set_option maxRecDepth 4096 in
theorem blockOf_M {nb : Nat} {V : VV} (B : Bas nb V) (O : OwnC nb V) {τ : XS} {f : Nat → Nat} (R : RM nb V τ f) {i k : Nat} (hi : i < 2100) (hl : live V i) (hk : k < vmn V i) : fMX12_blockOf_0 nb (nI i) (nI k) (XD τ f) = some (nI (vbl V i k), XD τ f) := by
  have hg := G_lt B
  have hmn := mn_lt B O hl
  have x10 : (XD τ f).2.1 10 i = nI (vbl V i 0) := by
    rw [XD_k _ _ _ _ (by omega), (R.2.2.1 i hi).2.2.2.2.2.2.1]; unfold fst0; rw [if_neg (by omega)]
  have key : ∃ r : Unit, True ∧ ∀ u : Unit, lfix ((fun _ k10 t => fMX12_blockOf_0_10 nb k10 t.1 t.2.1 t.2.2.1 t.2.2.2) u) FU (nI k, nI (vbl V i 0), nI 0, XD τ f) = some (nI (vbl V i k), XD τ f) := by
    refine lmea (κ := Unit) (fun _ k10 t => fMX12_blockOf_0_10 nb k10 t.1 t.2.1 t.2.2.1 t.2.2.2) (fun x : Nat => (nI k, nI (vbl V i x), nI x, XD τ f)) (fun _ (_ : Unit) => some (nI (vbl V i k), XD τ f)) (fun x => x ≤ k) (fun _ => True) (fun x => k - x) ?_ FU 0 (Nat.zero_le _) (by show k - 0 < FU; unfold FU; omega)
    intro x hx
    by_cases c : x = k
    · right
      refine ⟨(), trivial, fun _ K => ?_⟩
      subst c
      simp (disch := omega) only [fMX12_blockOf_0_10, nI_ltI', nI_leI', nI_eqI, nI_clampI, if_pos]
    · left
      have o := O.1 i x hl (by omega)
      have nx : (XD τ f).2.1 5 (vbl V i x) = nI (vbl V i (x + 1)) := by
        rw [XD_k _ _ _ _ (by omega), R.2.2.2.2.2.2.1 i x hi hl (by omega), if_pos (by omega)]
      refine ⟨x + 1, by omega, by show k - (x + 1) < k - x; omega, fun _ K => ?_⟩
      simp (disch := omega) only [fMX12_blockOf_0_10, lit, litN, nI_ltI', nI_leI', nI_eqI, nI_clampI, n_or, if_neg, nx, nI_add]
  obtain ⟨_, _, h⟩ := key
  have h' := h ()
  simp (disch := omega) only [fMX12_blockOf_0, fMX12_blockOf_0_0, lit, litN, nI_ltI', nI_leI', nI_eqI, nI_clampI, n_or, if_neg, x10]
  exact h'
-- the bytes that come to a file
set_option maxRecDepth 4096 in
theorem app143t_M {nb : Nat} {τ : XS} (g : Nat → Nat) {w : Nat → Nat} {i c s k b : Nat} (x4 : Int32) (hw : τ.2.1 2 k = sb (w k)) (hk : k < 4096) (hb : b < 512) (hs : s + k < 2000000) : ∀ K, fMX12_append_0_143 nb K (nI i) (nI c) (nI 1) x4 (nI s) (nI k) (nI (s + k)) (nI b) (XD τ g) = K (nI i, nI c, nI 1, x4, nI s, nI b, nI (k + 1), XD τ (wr1 g (1024 * b + (s + k) % 1024) (w k))) := by
  intro K
  have x2 : (XD τ g).2.1 2 k = sb (w k) := by rw [XD_k _ _ _ _ (by omega)]; exact hw
  simp (disch := omega) only [fMX12_append_0_143, fMX12_append_0_191, lit, litN, nI_ltI', nI_leI', nI_eqI, nI_clampI, n_or, if_neg, x2, nI_mul, nI_div, nI_sub_dm, n_sdm, n_sdm', nI_sub, nI_add, nar_sb, XD_put]
set_option maxRecDepth 4096 in
theorem app143p_M {nb : Nat} {τ : XS} (g : Nat → Nat) {i c s k b : Nat} (sd : Nat) (hk : k < 1000000) (hb : b < 512) (hs : s + k < 2000000) : ∀ K, fMX12_append_0_143 nb K (nI i) (nI c) (nI 0) (nI sd) (nI s) (nI k) (nI (s + k)) (nI b) (XD τ g) = K (nI i, nI c, nI 0, nI sd, nI s, nI b, nI (k + 1), XD τ (wr1 g (1024 * b + (s + k) % 1024) ((sd + k * k + k / 256) % 256))) := by
  intro K
  have e8 : nI k >>> (nI 8 &&& nI 31) = nI (k / 256) := by rw [nI_sh31 (by omega), nI_shr (by omega) (by omega)]
  have ev : sb (sd + k * k + k / 256) = sb ((sd + k * k + k / 256) % 256) := (sb_mod _).symm
  simp (disch := omega) only [fMX12_append_0_143, fMX12_append_0_191, lit, litN, nI_ltI', nI_leI', nI_eqI, nI_clampI, n_or, if_neg, if_true, nI_mul, nI_div, nI_sub_dm, n_sdm, n_sdm', nI_sub, nI_add, e8, byt_nI, nar_sb, ev, XD_put]
set_option maxRecDepth 4096 in
theorem app90_M {nb : Nat} {V : VV} (A : Stc nb V) {τ : XS} {f : Nat → Nat} (R : RM nb V τ f) {i s c : Nat} (hi : i < 2100) (hl : live V i) (hm : vmn V i = prt (s + c)) (hs : s + c < 1000000) (w : Nat → Nat) (x3 x4 : Int32)
    (hv : ∀ k b g K, k < c → b < 512 → fMX12_append_0_143 nb K (nI i) (nI c) x3 x4 (nI s) (nI k) (nI (s + k)) (nI b) (XD τ g) = K (nI i, nI c, x3, x4, nI s, nI b, nI (k + 1), XD τ (wr1 g (1024 * b + (s + k) % 1024) (w k)))) :
    RM nb (setR V 15 (pd (vdat V) (vbl V i) s w c)) τ (pd f (vbl V i) s w c) ∧ lfix (fun k90 t => fMX12_append_0_90 nb k90 t.1 t.2.1 t.2.2.1 t.2.2.2.1 t.2.2.2.2.1 t.2.2.2.2.2.1 t.2.2.2.2.2.2.1 t.2.2.2.2.2.2.2) FU (nI i, nI c, x3, x4, nI s, nI 0, nI 0, XD τ f) = some (nI (s + c), XD (stS (stA τ 7 i (nI (s + c))) 3 (nI 0)) (pd f (vbl V i) s w c)) := by
  have hg := G_lt A.1
  have hmn := mn_lt A.1 A.2.2 hl
  have hR : ∀ k, RM nb (setR V 15 (pd (vdat V) (vbl V i) s w k)) τ (pd f (vbl V i) s w k) := fun k => by
    refine RM_dat R (fun b o hb ho ht => ?_)
    induction k with
    | zero => exact R.2.2.2.2.2.2.2.2 b o hb ho ht
    | succ k ih =>
      show wr1 (pd f (vbl V i) s w k) _ (w k) _ = wr1 (pd (vdat V) (vbl V i) s w k) _ (w k) _
      unfold wr1; rw [ih]
  refine ⟨hR c, ?_⟩
  have key : ∃ r : Unit, True ∧ ∀ u : Unit, lfix ((fun (_ : Unit) k90 t => fMX12_append_0_90 nb k90 t.1 t.2.1 t.2.2.1 t.2.2.2.1 t.2.2.2.2.1 t.2.2.2.2.2.1 t.2.2.2.2.2.2.1 t.2.2.2.2.2.2.2) u) FU (nI i, nI c, x3, x4, nI s, nI 0, nI 0, XD τ f) = some (nI (s + c), XD (stS (stA τ 7 i (nI (s + c))) 3 (nI 0)) (pd f (vbl V i) s w c)) := by
    refine lmea (κ := Unit) (fun (_ : Unit) k90 t => fMX12_append_0_90 nb k90 t.1 t.2.1 t.2.2.1 t.2.2.2.1 t.2.2.2.2.1 t.2.2.2.2.2.1 t.2.2.2.2.2.2.1 t.2.2.2.2.2.2.2) (fun q : Nat × Nat => (nI i, nI c, x3, x4, nI s, nI q.2, nI q.1, XD τ (pd f (vbl V i) s w q.1))) (fun _ (_ : Unit) => some (nI (s + c), XD (stS (stA τ 7 i (nI (s + c))) 3 (nI 0)) (pd f (vbl V i) s w c)))
      (fun q => q.1 ≤ c ∧ (0 < q.1 → q.2 = vbl V i ((s + q.1 - 1) / 1024))) (fun _ => True) (fun q => c - q.1) ?_ FU (0, 0) ⟨Nat.zero_le _, fun h => by have h : 0 < 0 := h; omega⟩ (by show c - 0 < FU; unfold FU; omega)
    rintro ⟨k, b⟩ ⟨h1, h2⟩
    have h1 : k ≤ c := h1
    have h2 : 0 < k → b = vbl V i ((s + k - 1) / 1024) := h2
    by_cases e : k = c
    · right
      refine ⟨(), trivial, fun _ K => ?_⟩
      subst e
      have x7 : (XD (stS (stA τ 7 i (nI (s + k))) 3 (nI 0)) (pd f (vbl V i) s w k)).2.1 7 i = nI (s + k) := by
        rw [XD_k _ _ _ _ (by omega)]; show (stA τ 7 i (nI (s + k))).2.1 7 i = _; rw [stA_at, if_pos ⟨rfl, rfl⟩]
      simp (disch := omega) only [fMX12_append_0_90, lit, litN, nI_ltI', nI_leI', nI_eqI, nI_clampI, n_or, if_pos, if_neg, nI_add, XD_A, XD_S, x7]
    · left
      have hk : (s + k) / 1024 < vmn V i := by rw [hm]; unfold prt; omega
      obtain ⟨p0, p1, p2, p3, p4⟩ := A.2.2.1 i _ hl hk
      refine ⟨(k + 1, vbl V i ((s + k) / 1024)), ⟨by show k + 1 ≤ c; omega, fun _ => rfl⟩, by show c - (k + 1) < c - k; omega, fun _ K => ?_⟩
      have h3 := hv k (vbl V i ((s + k) / 1024)) (pd f (vbl V i) s w k) K (by omega) (by omega)
      show fMX12_append_0_90 nb K (nI i) (nI c) x3 x4 (nI s) (nI b) (nI k) (XD τ (pd f (vbl V i) s w k)) = K (nI i, nI c, x3, x4, nI s, nI (vbl V i ((s + k) / 1024)), nI (k + 1), XD τ (wr1 (pd f (vbl V i) s w k) (1024 * vbl V i ((s + k) / 1024) + (s + k) % 1024) (w k)))
      by_cases c0 : k = 0
      · have bo := blockOf_M (V := setR V 15 (pd (vdat V) (vbl V i) s w k)) A.1 A.2.2 (hR k) hi hl hk
        have bo : fMX12_blockOf_0 nb (nI i) (nI ((s + k) / 1024)) (XD τ (pd f (vbl V i) s w k)) = some (nI (vbl V i ((s + k) / 1024)), XD τ (pd f (vbl V i) s w k)) := bo
        subst c0
        simp (disch := omega) only [fMX12_append_0_90, lit, litN, nI_ltI', nI_leI', nI_eqI, nI_clampI, if_neg, if_true, nI_add, nI_div, bo, obs]
        exact h3
      · have eb := h2 (by omega)
        by_cases z : (s + k) % 1024 = 0
        · have hq : (s + k - 1) / 1024 + 1 = (s + k) / 1024 := by omega
          obtain ⟨q0, q1, q2, q3, q4⟩ := A.2.2.1 i ((s + k - 1) / 1024) hl (by omega)
          have nx : (XD τ (pd f (vbl V i) s w k)).2.1 5 b = nI (vbl V i ((s + k) / 1024)) := by
            rw [XD_k _ _ _ _ (by omega), eb, R.2.2.2.2.2.2.1 i _ hi hl (by omega), if_pos (by omega), hq]
          have hb : b < 512 := by rw [eb]; omega
          simp (disch := omega) only [fMX12_append_0_90, lit, litN, nI_ltI', nI_leI', nI_eqI, nI_clampI, n_or, if_neg, nI_add, nI_div, nI_mul, nI_sub_dm, n_sdm, n_sdm', nI_sub, z, if_true, nx]
          rw [z] at h3
          exact h3
        · have hq : (s + k - 1) / 1024 = (s + k) / 1024 := by omega
          rw [hq] at eb
          subst eb
          simp (disch := omega) only [fMX12_append_0_90, lit, litN, nI_ltI', nI_leI', nI_eqI, nI_clampI, n_or, if_neg, nI_add, nI_div, nI_mul, nI_sub_dm, n_sdm, n_sdm', nI_sub]
          exact h3
  obtain ⟨_, _, h⟩ := key
  exact h ()
set_option maxRecDepth 4096 in
theorem app57_M {nb : Nat} {V : VV} (A : Stc nb V) {τ : XS} {f : Nat → Nat} (R : RM nb V τ f) {i c : Nat} (h1 : 1 ≤ i) (h2 : i ≤ vQ V * vG V) (hl : live V i) (P : Shp V i) (hz : prt (vsz V i) = vmn V i) (hs : vsz V i + c < 1000000) (hf : alln (prt (vsz V i + c)) ≤ nfb V + alln (vmn V i)) (w : Nat → Nat) (x3 x4 : Int32)
    (hv : ∀ τ', τ'.2.1 2 = τ.2.1 2 → ∀ k b g K, k < c → b < 512 → fMX12_append_0_143 nb K (nI i) (nI c) x3 x4 (nI (vsz V i)) (nI k) (nI (vsz V i + k)) (nI b) (XD τ' g) = K (nI i, nI c, x3, x4, nI (vsz V i), nI b, nI (k + 1), XD τ' (wr1 g (1024 * b + (vsz V i + k) % 1024) (w k)))) :
    ∃ τ' f', RM nb (setR (setA (addN V i (prt (vsz V i + c) - vmn V i)) 4 i (vsz V i + c)) 15 (pd (vdat (addN V i (prt (vsz V i + c) - vmn V i))) (vbl (addN V i (prt (vsz V i + c) - vmn V i)) i) (vsz V i) w c)) τ' f' ∧ τ'.1 = (stS τ 3 (nI 0)).1 ∧ (∀ k, (k = 1 ∨ k = 2 ∨ k = 3 ∨ k = 17) → τ'.2.1 k = τ.2.1 k) ∧
    lfix (fun k57 t => fMX12_append_0_57 nb k57 t.1 t.2.1 t.2.2.1 t.2.2.2.1 t.2.2.2.2.1 t.2.2.2.2.2) FU (nI i, nI c, x3, x4, nI (vsz V i), XD τ f) = some (nI (vsz V i + c), XD τ' f') := by
  have hg := G_lt A.1
  have hi : i < 2100 := by omega
  have hle : vmn V i ≤ prt (vsz V i + c) := by rw [← hz]; unfold prt; omega
  have hpb : prt (vsz V i + c) < 3000 := by unfold prt; omega
  have hpp : (vsz V i + c + 1024 - 1) / 1024 = prt (vsz V i + c) := by unfold prt; rfl
  generalize hN : prt (vsz V i + c) = N at *
  have key : ∃ r : XS × (Nat → Nat), (RM nb (setR (setA (addN V i (N - vmn V i)) 4 i (vsz V i + c)) 15 (pd (vdat (addN V i (N - vmn V i))) (vbl (addN V i (N - vmn V i)) i) (vsz V i) w c)) r.1 r.2 ∧ r.1.1 = (stS τ 3 (nI 0)).1 ∧ ∀ k, (k = 1 ∨ k = 2 ∨ k = 3 ∨ k = 17) → r.1.2.1 k = τ.2.1 k) ∧ ∀ u : Unit, lfix ((fun (_ : Unit) k57 t => fMX12_append_0_57 nb k57 t.1 t.2.1 t.2.2.1 t.2.2.2.1 t.2.2.2.2.1 t.2.2.2.2.2) u) FU (nI i, nI c, x3, x4, nI (vsz V i), XD τ f) = some (nI (vsz V i + c), XD r.1 r.2) := by
    refine lmea (κ := Unit) (fun (_ : Unit) k57 t => fMX12_append_0_57 nb k57 t.1 t.2.1 t.2.2.1 t.2.2.2.1 t.2.2.2.2.1 t.2.2.2.2.2) (fun q : Nat × XS × (Nat → Nat) => (nI i, nI c, x3, x4, nI (vsz V i), XD q.2.1 q.2.2)) (fun _ (r : XS × (Nat → Nat)) => some (nI (vsz V i + c), XD r.1 r.2))
      (fun q => vmn V i + q.1 ≤ N ∧ RM nb (addN V i q.1) q.2.1 q.2.2 ∧ keepM τ q.2.1) _ (fun q => N - (vmn V i + q.1)) ?_ FU (0, τ, f) ⟨hle, R, keepM_rfl τ⟩ (by show N - (vmn V i + 0) < FU; unfold FU; omega)
    rintro ⟨n, ρ, g⟩ ⟨c1, R1, K1⟩
    have c1 : vmn V i + n ≤ N := c1
    have R1 : RM nb (addN V i n) ρ g := R1
    have K1 : keepM τ ρ := K1
    have hmo := alln_mono c1
    obtain ⟨A1, P1, m1, f1, E1⟩ := addN_S A h1 h2 hl P n (by omega)
    have hl1 : live (addN V i n) i := by unfold live; rw [E1.2.1]; exact hl
    have hm1 := mn_lt A1.1 A1.2.2 hl1
    have x9 : (XD ρ g).2.1 9 i = nI (vmn V i + n) := by rw [XD_k _ _ _ _ (by omega), (R1.2.2.1 i hi).2.2.2.1, m1]
    have pt := parts_M nb (XD ρ g) (x := vsz V i + c) (y := 1024) (by omega) (by omega)
    rw [hpp] at pt
    by_cases e : vmn V i + n = N
    · right
      have en : N - vmn V i = n := by omega
      have h2K := K1.2.1 2 (by omega)
      obtain ⟨R2, g2⟩ := app90_M A1 R1 (s := vsz V i) (c := c) hi hl1 (by rw [m1, e, hN]) hs w x3 x4 (hv ρ h2K)
      refine ⟨(stS (stA ρ 7 i (nI (vsz V i + c))) 3 (nI 0), pd g (vbl (addN V i n) i) (vsz V i) w c), ⟨?_, ?_, fun k hk => ?_⟩, fun _ K => ?_⟩
      · rw [en]
        have R3 := RM_S (m := 3) (v := nI 0) (by omega) (RM_sz R2 i (vsz V i + c))
        exact R3
      · show (stS ρ 3 (nI 0)).1 = _
        show upd ρ.1 3 (nI 0) = upd τ.1 3 (nI 0)
        rw [K1.1]
      · show (stA ρ 7 i (nI (vsz V i + c))).2.1 k = _
        rw [stA_k _ _ _ _ (by omega)]; exact K1.2.1 k (by omega)
      · rw [← e] at pt
        simp (disch := omega) only [fMX12_append_0_57, lit, litN, nI_ltI', nI_leI', nI_eqI, nI_clampI, n_or, if_neg, nI_add, pt, obs, x9, if_pos]
        exact g2
    · left
      have hc := cost_alln (n := vmn V i + n) (by omega)
      have hmo2 := alln_mono (show vmn V i + n + 1 ≤ N by omega)
      obtain ⟨ρ2, g2, R2, K2, gg⟩ := gain_M A1 R1 hi hl1 P1 (by rw [m1]; omega)
      refine ⟨(n + 1, ρ2, g2), ⟨by show vmn V i + (n + 1) ≤ N; omega, R2, keepM_trans K1 K2⟩, by show N - (vmn V i + (n + 1)) < N - (vmn V i + n); omega, fun _ K => ?_⟩
      simp (disch := omega) only [fMX12_append_0_57, lit, litN, nI_ltI', nI_leI', nI_eqI, nI_clampI, n_or, if_neg, nI_add, pt, obs, x9, gg]
  obtain ⟨⟨τ', f'⟩, ⟨k1, k2, k3⟩, k4⟩ := key
  exact ⟨τ', f', k1, k2, k3, k4 ()⟩
