def HL (V : VV) (i : Nat) (l : List Nat) (j : Nat) : Nat := if 12 ≤ j ∧ live V j ∧ (vpar V j < i ∨ (vpar V j = i ∧ vent V j ∉ l)) then vpar V j else 0
def keepH (σ ρ : XS) : Prop := ρ.1 = σ.1 ∧ (∀ k, k ≠ 4 → ρ.2.1 k = σ.2.1 k) ∧ ρ.2.2 = σ.2.2
set_option maxRecDepth 4096 in
theorem keepH_rfl (σ : XS) : keepH σ σ := ⟨rfl, fun _ _ => rfl, rfl⟩
set_option maxRecDepth 4096 in
theorem keepH_trans {σ ρ π : XS} (h : keepH σ ρ) (g : keepH ρ π) : keepH σ π := ⟨g.1.trans h.1, fun k hk => (g.2.1 k hk).trans (h.2.1 k hk), g.2.2.trans h.2.2⟩
set_option maxRecDepth 4096 in
theorem keepH_A (σ : XS) (j : Nat) (v : Int32) : keepH σ (stA σ 4 j v) := ⟨rfl, fun _ hk => stA_k _ _ _ _ hk, rfl⟩
set_option maxRecDepth 4096 in
theorem keepH_Sc {V : VV} {σ ρ : XS} (h : keepH σ ρ) (S : Sc V σ) : Sc V ρ := by unfold Sc; rw [h.1]; exact S
set_option maxRecDepth 4096 in
theorem keepH_Rd {L : List Nat} {σ ρ : XS} (h : keepH σ ρ) (R : RdL L σ) : RdL L ρ := ⟨by rw [h.1]; exact R.1, R.2.1, fun p a e => by rw [h.2.1 1 (by omega)]; exact R.2.2 p a e⟩
set_option maxRecDepth 4096 in
theorem hold_X {nb : Nat} {V : VV} (B : Bas nb V) {ρ : XS} (S : Sc V ρ) (d : Nat → Nat) {i j : Nat} (h1 : 12 ≤ j) (h2 : j ≤ vQ V * vG V) (h0 : ρ.2.1 4 j = nI 0) : fXX7_hold_10 nb (nI j) (nI i) (XD ρ d) = some (nI 1, XD (stA ρ 4 j (nI i)) d) := by
  have hg := G_lt B
  have iX := inodes_X B S d
  have e : (XD ρ d).2.1 4 j = nI 0 := by rw [XD_o _ _ (by omega)]; exact h0
  simp (disch := omega) only [fXX7_hold_10, fXX7_hold_10_0, lit, litN, nI_ltI', nI_leI', nI_eqI, nI_clampI, if_neg, iX, obs, n_or, e, if_true, XD_A]
set_option maxRecDepth 4096 in
theorem mem_c {x a : Nat} {M : List Nat} (h : x ≠ a) : (x ∉ a :: M) ↔ x ∉ M := ⟨fun q z => q (List.mem_cons_of_mem _ z), fun q z => (List.mem_cons.mp z).elim h q⟩
set_option maxRecDepth 4096 in
theorem HL_drop {nb : Nat} {V : VV} (G : Good nb V) {i a : Nat} {M : List Nat} (h0 : rd4 (vdat V) a = 0) (j : Nat) : HL V i (a :: M) j = HL V i M j := by
  unfold HL
  by_cases q : 12 ≤ j ∧ live V j ∧ vpar V j = i
  · have hne : vent V j ≠ a := fun e => by
      have := (G.2.2.2.2.2.2.2.1 j q.2.1 (by omega)).2.2
      rw [e] at this; omega
    have : (vent V j ∉ a :: M) ↔ vent V j ∉ M := mem_c hne
    simp only [this]
  · by_cases w : 12 ≤ j ∧ live V j ∧ vpar V j < i
    · rw [if_pos ⟨w.1, w.2.1, .inl w.2.2⟩, if_pos ⟨w.1, w.2.1, .inl w.2.2⟩]
    · rw [if_neg, if_neg]
      · rintro ⟨a1, a2, a3 | a3⟩
        · exact w ⟨a1, a2, a3⟩
        · exact q ⟨a1, a2, a3.1⟩
      · rintro ⟨a1, a2, a3 | a3⟩
        · exact w ⟨a1, a2, a3⟩
        · exact q ⟨a1, a2, a3.1⟩
set_option maxRecDepth 4096 in
theorem HL_hold {nb : Nat} {V : VV} (G : Good nb V) {i a : Nat} {M : List Nat} (E : Ent nb V i a) (hM : a ∉ M) (j : Nat) : HL V i M j = if j = rd4 (vdat V) a then i else HL V i (a :: M) j := by
  obtain ⟨e1, e2, e3, e4, e5, -⟩ := E
  by_cases c : j = rd4 (vdat V) a
  · subst c
    rw [if_pos rfl]
    unfold HL
    rw [if_pos ⟨e1, e3, .inr ⟨e4, by rw [e5]; exact hM⟩⟩, e4]
  · rw [if_neg c]
    unfold HL
    by_cases q : 12 ≤ j ∧ live V j ∧ vpar V j = i
    · have hne : vent V j ≠ a := fun e => by
        have := (G.2.2.2.2.2.2.2.1 j q.2.1 (by omega)).2.2
        rw [e] at this; exact c this.symm
      have : (vent V j ∉ a :: M) ↔ vent V j ∉ M := mem_c hne
      simp only [this]
    · by_cases w : 12 ≤ j ∧ live V j ∧ vpar V j < i
      · rw [if_pos ⟨w.1, w.2.1, .inl w.2.2⟩, if_pos ⟨w.1, w.2.1, .inl w.2.2⟩]
      · rw [if_neg, if_neg]
        · rintro ⟨a1, a2, a3 | a3⟩
          · exact w ⟨a1, a2, a3⟩
          · exact q ⟨a1, a2, a3.1⟩
        · rintro ⟨a1, a2, a3 | a3⟩
          · exact w ⟨a1, a2, a3⟩
          · exact q ⟨a1, a2, a3.1⟩
set_option maxRecDepth 4096 in
theorem HL_0 {nb : Nat} {V : VV} (G : Good nb V) (i j : Nat) : HL V i ((fl V i).drop 2) j = if 12 ≤ j ∧ live V j ∧ vpar V j < i then vpar V j else 0 := by
  unfold HL
  by_cases w : 12 ≤ j ∧ live V j ∧ vpar V j < i
  · rw [if_pos ⟨w.1, w.2.1, .inl w.2.2⟩, if_pos w]
  · rw [if_neg w, if_neg]
    rintro ⟨a1, a2, a3 | a3⟩
    · exact w ⟨a1, a2, a3⟩
    · have := (G.2.2.2.2.2.2.2.1 j a2 (by omega)).2.1
      rw [a3.1] at this
      exact a3.2 (List.mem_filter.mp this).1
set_option maxRecDepth 4096 in
theorem HL_1 (V : VV) (i j : Nat) : HL V i [] j = if 12 ≤ j ∧ live V j ∧ vpar V j < i + 1 then vpar V j else 0 := by
  unfold HL
  by_cases w : 12 ≤ j ∧ live V j ∧ vpar V j < i + 1
  · have hz : vpar V j < i ∨ (vpar V j = i ∧ vent V j ∉ ([] : List Nat)) := by
      have := w.2.2
      by_cases z : vpar V j < i
      · exact .inl z
      · exact .inr ⟨by omega, List.not_mem_nil⟩
    rw [if_pos w, if_pos ⟨w.1, w.2.1, hz⟩]
  · rw [if_neg w, if_neg]
    rintro ⟨a1, a2, a3 | a3⟩
    · exact w ⟨a1, a2, by omega⟩
    · exact w ⟨a1, a2, by omega⟩
-- length of an entry is a multiple of four
set_option maxRecDepth 4096 in
theorem fl_m4 {nb : Nat} {V : VV} {i : Nat} (H : DS nb V i) {a : Nat} (ha : a ∈ fl V i) : rd2 (vdat V) (a + 4) % 4 = 0 := by
  obtain ⟨k, k1, k2, k3⟩ := (fl_mem (vmn V i) 0).mp ha
  exact (Seg_adr _ _ _ (H.2.2 k (by omega)) a k3).2.2.2.2.2
set_option maxRecDepth 4096 in
theorem items1H_X {nb : Nat} {V : VV} {d : Nat → Nat} (G : Good nb V) (D : DX nb V d) {i : Nat} (hk : vkd V i = 2) :
    ∀ (M : List Nat) (p c n : Nat) (ρ : XS), (fl V i).drop p = M → 2 ≤ p → p ≤ (fl V i).length → M.length < n → Sc V ρ → RdL (fl V i) ρ → (∀ j, j < 2065 → ρ.2.1 4 j = nI (HL V i M j)) → c + ((M.filter (nz (vdat V))).filter (isD V)).length = vlk V i →
    ∃ ρ', keepH ρ ρ' ∧ (∀ j, j < 2065 → ρ'.2.1 4 j = nI (HL V i [] j)) ∧ lfix (fun k4 t => fXX7_itemsHold_10_4 nb k4 t.1 t.2.1 t.2.2.1 t.2.2.2) n (nI i, nI c, nI p, XD ρ d) = some (nI 1, XD ρ' d) := by
  have hg := G_lt G.1.1
  obtain ⟨hl, DI, D2, hL⟩ := dirF G hk
  have hin := G.ino hl
  have nd := fl_nd G.1.2.2 hl DI.1
  have hlen := D2.2.1
  have k10 : (nI 1 = nI 0) = False := eq_false nI10
  have hlk : vlk V i < 65536 := by
    rw [DI.2.2.2.2.2]
    have h1 := List.length_filter_le (isD V) (itm (vdat V) (fl V i))
    have h2 := List.length_filter_le (nz (vdat V)) ((fl V i).drop 2)
    rw [List.length_drop] at h2
    have h3 : (itm (vdat V) (fl V i)).length ≤ (fl V i).length - 2 := h2
    omega
  intro M
  induction M with
  | nil =>
    intro p c n ρ hd hp2 hp hn' S R hH hc
    obtain ⟨n, rfl⟩ : ∃ k, n = k + 1 := ⟨n - 1, by omega⟩
    have hdn := drop_nil hd
    have hc : c = vlk V i := hc
    subst hc
    have lk := links_X G.1.1 S D hin.1 hin.2.1 hl hlk
    refine ⟨ρ, keepH_rfl ρ, hH, ?_⟩
    have gen : ∀ K, fXX7_itemsHold_10_4 nb K (nI i) (nI (vlk V i)) (nI p) (XD ρ d) = some (nI 1, XD ρ d) := fun K => by
      simp (disch := omega) only [fXX7_itemsHold_10_4, fXX5_count_7, fXX5_count_7_0, cnt7 d R, obs, nI_leI', if_pos, lk, if_true, lit, litN]
    exact gen _
  | cons a M ih =>
    intro p c n ρ hd hp2 hp hn' S R hH hc
    obtain ⟨n, rfl⟩ : ∃ k, n = k + 1 := ⟨n - 1, by omega⟩
    obtain ⟨g1, g2, g3⟩ := drop_cons hd
    rw [List.length_cons] at hn'
    have ha : a ∈ fl V i := get_mem g2
    have had : a ∈ (fl V i).drop 2 := by
      have : a ∈ (fl V i).drop p := by rw [hd]; exact List.mem_cons_self ..
      rw [show p = 2 + (p - 2) by omega, ← List.drop_drop] at this
      exact List.mem_of_mem_drop this
    have hm4 := fl_m4 DI.1 ha
    have io := inodeOf_X (by omega) D R hL g2
    show ∃ ρ', keepH ρ ρ' ∧ (∀ j, j < 2065 → ρ'.2.1 4 j = nI (HL V i [] j)) ∧ fXX7_itemsHold_10_4 nb (lfix (fun k4 t => fXX7_itemsHold_10_4 nb k4 t.1 t.2.1 t.2.2.1 t.2.2.2) n) (nI i) (nI c) (nI p) (XD ρ d) = _
    rcases DI.2.2.2.1 a had with z | E
    · have eh := entryH_X G.1.1 S D R hL g2 hm4 (.inl z)
      have gen : ∀ K, fXX7_itemsHold_10_4 nb K (nI i) (nI c) (nI p) (XD ρ d) = K (nI i, nI c, nI (p + 1), XD ρ d) := fun K => by
        rw [z.1] at io
        simp (disch := omega) only [fXX7_itemsHold_10_4, fXX7_itemsHold_10_80, fXX5_count_7, fXX5_count_7_0, cnt7 d R, obs, nI_leI', if_neg, eh, lit, litN, k10, if_false, io, if_true, nI_add]
      rw [gen]
      exact ih (p + 1) c n ρ g3 (by omega) (by omega) (by omega) S R (fun j hj => by rw [hH j hj, HL_drop G z.1]) (by rw [List.filter_cons_of_neg (nz_f.mpr z.1)] at hc; exact hc)
    · have aM : a ∉ M := by
        have : ((fl V i).drop p).Nodup := List.Nodup.sublist (List.drop_sublist p _) nd
        rw [hd] at this
        exact (List.nodup_cons.mp this).1
      have HH := HL_hold G E aM
      obtain ⟨e1, e2, e3, e4, e5, e6, e7, e8, e9, e10, e11⟩ := E
      have h0 : rd4 (vdat V) a ≠ 0 := by omega
      have e6' : vdat V (a + 7) % 256 = (if vkd V (rd4 (vdat V) a) = 2 then 2 else 1) := by
        rw [e6]
        unfold live at e3
        by_cases q : vkd V (rd4 (vdat V) a) = 2
        · rw [if_pos q, q]
        · rw [if_neg q]; omega
      have eh := entryH_X G.1.1 S D R hL g2 hm4 (.inr ⟨by omega, e2, e6', e11⟩)
      have jz : (nI (rd4 (vdat V) a) = nI 0) = False := eq_false (fun e => by have := nI_inj (rd4_lt _ _) (by omega) e; omega)
      have nh := nameH_X (by omega) D R hL g2 h0 e7 e8 (fun q b hq hb hb0 sm => by
        by_cases q2 : 2 ≤ q
        · have mb : b ∈ itm (vdat V) (fl V i) := List.mem_filter.mpr ⟨by
            have : ((fl V i).drop 2)[q - 2]? = some b := by rw [List.getElem?_drop, show 2 + (q - 2) = q by omega]; exact hb
            exact get_mem this, nz_t.mpr hb0⟩
          have ma : a ∈ itm (vdat V) (fl V i) := List.mem_filter.mpr ⟨had, nz_t.mpr h0⟩
          refine DI.2.2.2.2.1 b a mb ma (fun e => ?_) sm
          subst e
          have := (List.getElem?_inj (get_lt hb) nd).mp (hb.trans g2.symm)
          omega
        · obtain ⟨r, hr⟩ := DI.2.1
          obtain ⟨Mm, hMm⟩ : ∃ M, vmn V i = M + 1 := ⟨vmn V i - 1, by have := DI.1.1; omega⟩
          have hflt : fl V i = (1024 * vbl V i 0) :: (1024 * vbl V i 0 + 12) :: (r ++ flt (ves V i) 1 Mm) := by unfold fl; rw [hMm]; show ves V i 0 ++ _ = _; rw [hr]; rfl
          have dt := DI.2.2.1
          rw [hflt] at hb
          rcases (show q = 0 ∨ q = 1 by omega) with w | w
          · subst w
            have hb : 1024 * vbl V i 0 = b := by simpa using hb
            subst hb
            have s1 := sm.1; have s2 := sm.2 0 (by rw [dt.2.2.2.1.1]; omega)
            rw [dt.2.2.2.1.1] at s1
            rw [Nat.add_zero, Nat.add_zero, dt.2.2.2.1.2.2.1] at s2
            exact e9 ⟨s2.symm, .inl s1.symm⟩
          · subst w
            have hb : 1024 * vbl V i 0 + 12 = b := by simpa using hb
            subst hb
            have d6 : vdat V (1024 * vbl V i 0 + 12 + 6) % 256 = 2 := dt.2.2.2.2.1
            have d8 : vdat V (1024 * vbl V i 0 + 12 + 8 + 0) % 256 = 46 := dt.2.2.2.2.2.2.1
            have d9 : vdat V (1024 * vbl V i 0 + 12 + 8 + 1) % 256 = 46 := dt.2.2.2.2.2.2.2.1
            have s1 := sm.1; have s2 := sm.2 0 (by rw [d6]; omega); have s3 := sm.2 1 (by rw [d6]; omega)
            rw [d6] at s1
            rw [d8] at s2
            rw [d9] at s3
            exact e9 ⟨s2.symm, .inr ⟨s1.symm, s3.symm⟩⟩)
      have hj0 : ρ.2.1 4 (rd4 (vdat V) a) = nI 0 := by
        rw [hH _ (by omega)]
        congr 1
        unfold HL
        rw [if_neg]
        rintro ⟨_, _, q | q⟩
        · omega
        · exact q.2 (by rw [e5]; exact List.mem_cons_self ..)
      have ho := hold_X (i := i) G.1.1 S d e1 e2 hj0
      have kH := keepH_A ρ (rd4 (vdat V) a) (nI i)
      have hH' : ∀ j, j < 2065 → (stA ρ 4 (rd4 (vdat V) a) (nI i)).2.1 4 j = nI (HL V i M j) := fun j hj => by
        rw [stA_at, HH j]
        by_cases c2 : j = rd4 (vdat V) a
        · rw [if_pos ⟨rfl, c2⟩, if_pos c2]
        · rw [if_neg (fun z => c2 z.2), if_neg c2]; exact hH j hj
      generalize hρ : stA ρ 4 (rd4 (vdat V) a) (nI i) = ρ1 at *
      have S1 := keepH_Sc kH S
      have R1 := keepH_Rd kH R
      have iD := isDir_X G.1.1 S1 D (i := rd4 (vdat V) a) (by omega) e2
      rw [List.filter_cons_of_pos (nz_t.mpr h0)] at hc
      by_cases q : vkd V (rd4 (vdat V) a) = 2
      · rw [if_pos q] at iD
        have gen : ∀ K, fXX7_itemsHold_10_4 nb K (nI i) (nI c) (nI p) (XD ρ d) = K (nI i, nI (c + 1), nI (p + 1), XD ρ1 d) := fun K => by
          simp (disch := omega) only [fXX7_itemsHold_10_4, fXX7_itemsHold_10_78, fXX7_itemsHold_10_80, fXX5_count_7, fXX5_count_7_0, cnt7 d R, obs, nI_leI', if_neg, eh, lit, litN, k10, if_false, io, jz, nh, ho, iD, nI_add]
        rw [gen]
        rw [List.filter_cons_of_pos (by unfold isD; rw [q]; rfl), List.length_cons] at hc
        obtain ⟨ρ', a1, a2, a3⟩ := ih (p + 1) (c + 1) n ρ1 g3 (by omega) (by omega) (by omega) S1 R1 hH' (by omega)
        exact ⟨ρ', keepH_trans kH a1, a2, a3⟩
      · rw [if_neg q] at iD
        have gen : ∀ K, fXX7_itemsHold_10_4 nb K (nI i) (nI c) (nI p) (XD ρ d) = K (nI i, nI c, nI (p + 1), XD ρ1 d) := fun K => by
          simp (disch := omega) only [fXX7_itemsHold_10_4, fXX7_itemsHold_10_78, fXX7_itemsHold_10_80, fXX5_count_7, fXX5_count_7_0, cnt7 d R, obs, nI_leI', if_neg, eh, lit, litN, k10, if_false, io, jz, nh, ho, iD, if_true, nI_add, Nat.add_zero]
        rw [gen]
        rw [List.filter_cons_of_neg (by unfold isD; simpa using q)] at hc
        obtain ⟨ρ', a1, a2, a3⟩ := ih (p + 1) c n ρ1 g3 (by omega) (by omega) (by omega) S1 R1 hH' hc
        exact ⟨ρ', keepH_trans kH a1, a2, a3⟩
