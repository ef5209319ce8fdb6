-- what holds of a volume between calls
def Ent (nb : Nat) (V : VV) (i a : Nat) : Prop := 12 ≤ rd4 (vdat V) a ∧ rd4 (vdat V) a ≤ vQ V * vG V ∧ live V (rd4 (vdat V) a) ∧ vpar V (rd4 (vdat V) a) = i ∧ vent V (rd4 (vdat V) a) = a ∧ vdat V (a + 7) % 256 = vkd V (rd4 (vdat V) a) ∧
  1 ≤ vdat V (a + 6) % 256 ∧ (∀ k, k < vdat V (a + 6) % 256 → vdat V (a + 8 + k) % 256 ≠ 0 ∧ vdat V (a + 8 + k) % 256 ≠ 47) ∧ ¬ (vdat V (a + 8) % 256 = 46 ∧ (vdat V (a + 6) % 256 = 1 ∨ vdat V (a + 6) % 256 = 2 ∧ vdat V (a + 9) % 256 = 46)) ∧
  spc (vdat V (a + 6) % 256) ≤ rd2 (vdat V) (a + 4) ∧ ∀ o, 8 + vdat V (a + 6) % 256 ≤ o → o < spc (vdat V (a + 6) % 256) → vdat V (a + o) % 256 = 0
def Dots (V : VV) (i : Nat) : Prop := rd4 (vdat V) (1024 * vbl V i 0) = i ∧ rd4 (vdat V) (1024 * vbl V i 0 + 12) = vpar V i ∧ rd2 (vdat V) (1024 * vbl V i 0 + 4) = 12 ∧
  (vdat V (1024 * vbl V i 0 + 6) % 256 = 1 ∧ vdat V (1024 * vbl V i 0 + 7) % 256 = 2 ∧ vdat V (1024 * vbl V i 0 + 8) % 256 = 46 ∧ ∀ o, 9 ≤ o → o < 12 → vdat V (1024 * vbl V i 0 + o) % 256 = 0) ∧
  (vdat V (1024 * vbl V i 0 + 18) % 256 = 2 ∧ vdat V (1024 * vbl V i 0 + 19) % 256 = 2 ∧ vdat V (1024 * vbl V i 0 + 20) % 256 = 46 ∧ vdat V (1024 * vbl V i 0 + 21) % 256 = 46 ∧ ∀ o, 22 ≤ o → o < 24 → vdat V (1024 * vbl V i 0 + o) % 256 = 0)
def smN (f : Nat → Nat) (a b : Nat) : Prop := f (a + 6) % 256 = f (b + 6) % 256 ∧ ∀ k, k < f (a + 6) % 256 → f (a + 8 + k) % 256 = f (b + 8 + k) % 256
def isD (V : VV) (a : Nat) : Bool := vkd V (rd4 (vdat V) a) == 2
def DirI (nb : Nat) (V : VV) (i : Nat) : Prop := DS nb V i ∧ (∃ r, ves V i 0 = (1024 * vbl V i 0) :: (1024 * vbl V i 0 + 12) :: r) ∧ Dots V i ∧
  (∀ a, a ∈ (fl V i).drop 2 → (rd4 (vdat V) a = 0 ∧ a % 1024 = 0) ∨ Ent nb V i a) ∧ (∀ a b, a ∈ itm (vdat V) (fl V i) → b ∈ itm (vdat V) (fl V i) → a ≠ b → ¬ smN (vdat V) a b) ∧ vlk V i = 2 + ((itm (vdat V) (fl V i)).filter (isD V)).length
def okt (nb t b : Nat) : Prop := t ≠ 1 ∧ (1 ≤ b → b < nb → t ≤ 6)
set_option maxRecDepth 4096 in
theorem okt_s {nb t b : Nat} (h : t ≠ 1) (h2 : t ≤ 6) : okt nb t b := ⟨h, fun _ _ => h2⟩
set_option maxRecDepth 4096 in
theorem okt_o {nb t b : Nat} (h : t ≠ 1) (h2 : ¬ b < nb) : okt nb t b := ⟨h, fun _ q => absurd q h2⟩
def Good (nb : Nat) (V : VV) : Prop := Stc nb V ∧ CntI V ∧ CntD V ∧ (∀ i, live V i → Shp V i ∧ prt (vsz V i) = vmn V i) ∧
  (∀ i, ¬ live V i → vsz V i = 0 ∧ vlk V i = 0 ∧ vmn V i = 0 ∧ vrn V i = 0 ∧ vtw V i = 0 ∧ vsg V i = 0 ∧ vdb V i = 0 ∧ vtm V (3 * i) = 0 ∧ vtm V (3 * i + 1) = 0 ∧ vtm V (3 * i + 2) = 0) ∧
  ((∀ i, vkd V i < 4) ∧ vkd V 0 = 0 ∧ (∀ i, vQ V * vG V < i → vkd V i = 0) ∧ (∀ i, 1 ≤ i → i < 12 → i ≠ 2 → vkd V i = 3) ∧ vkd V 2 = 2 ∧ ∀ i, 12 ≤ i → vkd V i ≠ 3) ∧
  (∀ b, okt nb (vot V b) b) ∧ (∀ i, live V i → i ≠ 2 → vkd V (vpar V i) = 2 ∧ vent V i ∈ itm (vdat V) (fl V (vpar V i)) ∧ rd4 (vdat V) (vent V i) = i) ∧ vpar V 2 = 2 ∧ (∀ i, vkd V i = 1 → vlk V i = 1) ∧
  (∀ i, vkd V i = 2 → i ≠ 2 → vdp V (vpar V i) < vdp V i) ∧ (∀ x, vtm V x < 4294967296) ∧ (vI V < 4294967296 ∧ vmd V = 1) ∧ ∀ i, vkd V i = 2 → DirI nb V i
set_option maxRecDepth 4096 in
theorem Seg_pw {f : Nat → Nat} : ∀ (l : List Nat) (a e : Nat), Seg f l a e → l.Pairwise (· < ·) := by
  intro l
  induction l with
  | nil => intro a e _; exact List.Pairwise.nil
  | cons x l ih =>
    intro a e h
    obtain ⟨h1, h2, h3, h4, h5⟩ := h
    refine List.Pairwise.cons (fun y hy => ?_) (ih _ _ h5)
    have := Seg_adr _ _ _ h5 y hy
    omega
set_option maxRecDepth 4096 in
theorem flt_nd {nb : Nat} {V : VV} (O : OwnC nb V) {i : Nat} (hl : live V i) (H : DS nb V i) : ∀ m x, x + m ≤ vmn V i → (flt (ves V i) x m).Nodup := by
  intro m
  induction m with
  | zero => intro x _; exact List.Pairwise.nil
  | succ m ih =>
    intro x hx
    rw [flt, List.nodup_append]
    refine ⟨?_, ih (x + 1) (by omega), fun a ha b hb => ?_⟩
    · exact List.nodup_iff_pairwise_ne.mpr ((Seg_pw _ _ _ (H.2.2 x (by omega))).imp (fun h => by omega))
    · obtain ⟨k, k1, k2, k3⟩ := (fl_mem m (x + 1)).mp hb
      have e1 := (DS_Adr O hl H (k := x) (by omega) ha).2.1
      have e2 := (DS_Adr O hl H (k := k) (by omega) k3).2.1
      intro e
      have o1 := O.1 i x hl (by omega); have o2 := O.1 i k hl (by omega)
      have : vbl V i x = vbl V i k := by rw [← e1, ← e2, e]
      have h1 := o1.2.2.2.2; have h2 := o2.2.2.2.2
      rw [this, h2] at h1; omega
set_option maxRecDepth 4096 in
theorem fl_nd {nb : Nat} {V : VV} (O : OwnC nb V) {i : Nat} (hl : live V i) (H : DS nb V i) : (fl V i).Nodup := flt_nd O hl H (vmn V i) 0 (by omega)
set_option maxRecDepth 4096 in
theorem filt_add (p : Nat → Bool) : ∀ l : List Nat, l.length = (l.filter p).length + (l.filter (fun a => !p a)).length := by
  intro l
  induction l with
  | nil => rfl
  | cons x l ih =>
    by_cases h : p x = true
    · rw [List.filter_cons_of_pos h, List.filter_cons_of_neg (by simp [h]), List.length_cons, List.length_cons]; omega
    · rw [List.filter_cons_of_neg h, List.filter_cons_of_pos (by simp [h]), List.length_cons, List.length_cons]; omega
set_option maxRecDepth 4096 in
theorem nd_pig {l : List Nat} {N : Nat} (g : Nat → Nat) (hd : l.Nodup) (h1 : ∀ a ∈ l, g a < N) (h2 : ∀ a ∈ l, ∀ b ∈ l, g a = g b → a = b) : l.length ≤ N := by
  refine pig N l.length (fun k => g (l.getD k 0)) (fun k hk => ?_) (fun k j hk hj e => ?_)
  · have e : l.getD k 0 = l[k] := by rw [List.getD_eq_getElem?_getD, List.getElem?_eq_getElem hk]; rfl
    show g (l.getD k 0) < N
    rw [e]; exact h1 _ (List.getElem_mem hk)
  · have ek : l.getD k 0 = l[k] := by rw [List.getD_eq_getElem?_getD, List.getElem?_eq_getElem hk]; rfl
    have ej : l.getD j 0 = l[j] := by rw [List.getD_eq_getElem?_getD, List.getElem?_eq_getElem hj]; rfl
    have e : g (l.getD k 0) = g (l.getD j 0) := e
    rw [ek, ej] at e
    have := h2 _ (List.getElem_mem hk) _ (List.getElem_mem hj) e
    exact (List.getElem?_inj hk hd).mp (by rw [List.getElem?_eq_getElem hk, List.getElem?_eq_getElem hj, this])
set_option maxRecDepth 4096 in
theorem fl_adr {nb : Nat} {V : VV} (O : OwnC nb V) {i : Nat} (hl : live V i) (H : DS nb V i) {a : Nat} (ha : a ∈ fl V i) : ∃ k, k < vmn V i ∧ Adr nb V a ∧ a / 1024 = vbl V i k ∧ a % 1024 + rd2 (vdat V) (a + 4) ≤ 1024 ∧ 12 ≤ rd2 (vdat V) (a + 4) := by
  obtain ⟨k, k1, k2, k3⟩ := (fl_mem (vmn V i) 0).mp ha
  obtain ⟨a1, a2, a3⟩ := DS_Adr O hl H (k := k) (by omega) k3
  exact ⟨k, by omega, a1, a2, a3, (Seg_adr _ _ _ (H.2.2 k (by omega)) a k3).2.2.2.2.1⟩
set_option maxRecDepth 4096 in
theorem dir_len {nb : Nat} {V : VV} (B : Bas nb V) (O : OwnC nb V) {i : Nat} (hl : live V i) (H : DS nb V i) (hE : ∀ a, a ∈ (fl V i).drop 2 → (rd4 (vdat V) a = 0 ∧ a % 1024 = 0) ∨ Ent nb V i a) : (fl V i).length ≤ 2578 := by
  have hg := G_lt B
  have hmn := mn_lt B O hl
  have nd := fl_nd O hl H
  have ndd : ((fl V i).drop 2).Nodup := List.Nodup.sublist (List.drop_sublist 2 _) nd
  have h1 : (((fl V i).drop 2).filter (nz (vdat V))).length ≤ 2053 := by
    refine nd_pig (fun a => rd4 (vdat V) a - 12) (List.Pairwise.filter _ ndd) (fun a ha => ?_) (fun a ha b hb e => ?_)
    · obtain ⟨m1, m2⟩ := List.mem_filter.mp ha
      rcases hE a m1 with h | h
      · exact absurd h.1 (nz_t.mp m2)
      · have := h.1; have := h.2.1; show rd4 (vdat V) a - 12 < 2053; omega
    · obtain ⟨m1, m2⟩ := List.mem_filter.mp ha
      obtain ⟨m3, m4⟩ := List.mem_filter.mp hb
      rcases hE a m1 with h | h
      · exact absurd h.1 (nz_t.mp m2)
      · rcases hE b m3 with g | g
        · exact absurd g.1 (nz_t.mp m4)
        · have e : rd4 (vdat V) a - 12 = rd4 (vdat V) b - 12 := e
          have e1 := h.2.2.2.2.1; have e2 := g.2.2.2.2.1
          have := h.1; have := g.1
          rw [← e1, ← e2, show rd4 (vdat V) a = rd4 (vdat V) b by omega]
  have h2 : (((fl V i).drop 2).filter (fun a => !nz (vdat V) a)).length ≤ 512 := by
    refine nd_pig (fun a => a / 1024) (List.Pairwise.filter _ ndd) (fun a ha => ?_) (fun a ha b hb e => ?_)
    · obtain ⟨m1, m2⟩ := List.mem_filter.mp ha
      obtain ⟨k, k1, k2, k3, k4⟩ := fl_adr O hl H (List.mem_of_mem_drop m1)
      have := k2.1; show a / 1024 < 512; omega
    · obtain ⟨m1, m2⟩ := List.mem_filter.mp ha
      obtain ⟨m3, m4⟩ := List.mem_filter.mp hb
      have z1 : rd4 (vdat V) a = 0 := nz_f.mp (by simpa using m2)
      have z2 : rd4 (vdat V) b = 0 := nz_f.mp (by simpa using m4)
      have e : a / 1024 = b / 1024 := e
      rcases hE a m1 with h | h
      · rcases hE b m3 with g | g
        · omega
        · have := g.1; omega
      · have := h.1; omega
  have h3 := filt_add (nz (vdat V)) ((fl V i).drop 2)
  rw [List.length_drop] at h3
  omega
set_option maxRecDepth 4096 in
theorem dir_LO {nb : Nat} {V : VV} (O : OwnC nb V) {i : Nat} (hl : live V i) (D : DirI nb V i) : LO nb V (fl V i) := by
  obtain ⟨H, ⟨r, hr⟩, dt, hE, _⟩ := D
  intro a ha
  obtain ⟨k, k1, k2, k3, k4, k5⟩ := fl_adr O hl H ha
  refine ⟨k2, k4, k5, fun h0 => ?_⟩
  unfold usd; rw [if_neg h0]
  obtain ⟨M, hM⟩ : ∃ M, vmn V i = M + 1 := ⟨vmn V i - 1, by omega⟩
  have hflt : fl V i = ves V i 0 ++ flt (ves V i) 1 M := by unfold fl; rw [hM]; rfl
  rw [hflt, hr] at ha
  rcases List.mem_cons.mp ha with e | ha
  · rw [e, dt.2.2.2.1.1, dt.2.2.1]; decide
  · rcases List.mem_cons.mp ha with e | ha
    · rw [e, dt.2.2.2.2.1]
      have : spc 2 = 12 := rfl
      rw [e] at k5; omega
    · have hd : a ∈ (fl V i).drop 2 := by rw [hflt, hr]; exact ha
      rcases hE a hd with h | h
      · exact absurd h.1 h0
      · exact h.2.2.2.2.2.2.2.2.2.1
set_option maxRecDepth 4096 in
theorem dir_DS2 {nb : Nat} {V : VV} (B : Bas nb V) (O : OwnC nb V) {i : Nat} (hl : live V i) (D : DirI nb V i) : DS2 nb V i := ⟨D.1, dir_len B O hl D.1 D.2.2.2.1, D.2.1⟩
set_option maxRecDepth 4096 in
theorem fl_2 {nb : Nat} {V : VV} {i : Nat} (D : DS2 nb V i) : 2 ≤ (fl V i).length := by
  obtain ⟨H, _, r, hr⟩ := D
  have h1 := H.1
  obtain ⟨M, hM⟩ : ∃ M, vmn V i = M + 1 := ⟨vmn V i - 1, by omega⟩
  have hflt : fl V i = ves V i 0 ++ flt (ves V i) 1 M := by unfold fl; rw [hM]; rfl
  rw [hflt, hr, List.length_append, List.length_cons, List.length_cons]; omega
-- parts of it
set_option maxRecDepth 4096 in
theorem Good.ino {nb : Nat} {V : VV} (G : Good nb V) {i : Nat} (h : live V i) : 1 ≤ i ∧ i ≤ vQ V * vG V ∧ i < 2100 := by
  have hg := G_lt G.1.1
  obtain ⟨_, _, _, _, _, ⟨k1, k2, k3, k4, k5, k6⟩, _⟩ := G
  refine ⟨?_, ?_, ?_⟩
  · rcases Nat.eq_zero_or_pos i with e | e
    · subst e; unfold live at h; omega
    · exact e
  · rcases Nat.lt_or_ge (vQ V * vG V) i with c | c
    · have := k3 i c; unfold live at h; omega
    · exact c
  · rcases Nat.lt_or_ge (vQ V * vG V) i with c | c
    · have := k3 i c; unfold live at h; omega
    · omega
set_option maxRecDepth 4096 in
theorem Good.sz {nb : Nat} {V : VV} (G : Good nb V) (i : Nat) : vsz V i < 525000 := by
  have hg := G_lt G.1.1
  by_cases h : live V i
  · have h1 := (G.2.2.2.1 i h).2
    have h2 := mn_lt G.1.1 G.1.2.2 h
    unfold prt at h1; omega
  · have := (G.2.2.2.2.1 i h).1; omega
set_option maxRecDepth 4096 in
theorem RM1 {nb : Nat} {V : VV} {τ : XS} {f : Nat → Nat} (G : Good nb V) (R : RM nb V τ f) : τ.1 2 = nI 1 := by
  have := R.1.1
  rw [G.2.2.2.2.2.2.2.2.2.2.2.2.1.2] at this; exact this
