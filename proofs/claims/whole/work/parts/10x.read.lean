-- lists of entries
def Seg (f : Nat → Nat) : List Nat → Nat → Nat → Prop
  | [], a, e => a = e
  | x :: l, a, e => x = a ∧ 12 ≤ rd2 f (a + 4) ∧ rd2 f (a + 4) % 4 = 0 ∧ a + rd2 f (a + 4) ≤ e ∧ Seg f l (a + rd2 f (a + 4)) e
def flt (es : Nat → List Nat) : Nat → Nat → List Nat
  | _, 0 => []
  | x, m + 1 => es x ++ flt es (x + 1) m
def fl (V : VV) (i : Nat) : List Nat := flt (ves V i) 0 (vmn V i)
set_option maxRecDepth 4096 in
theorem flt_add (es : Nat → List Nat) : ∀ (n x m : Nat), flt es x (n + m) = flt es x n ++ flt es (x + n) m := by
  intro n
  induction n with
  | zero => intro x m; simp [flt]
  | succ n ih => intro x m; rw [Nat.succ_add, flt, flt, ih, List.append_assoc, show x + 1 + n = x + (n + 1) by omega]
set_option maxRecDepth 4096 in
theorem flt_succ (es : Nat → List Nat) (n : Nat) : flt es 0 (n + 1) = flt es 0 n ++ es n := by
  rw [flt_add es n 0 1, Nat.zero_add]; simp [flt]
def pushs : XS → List Nat → XS
  | ρ, [] => ρ
  | ρ, x :: l => pushs (stS (stA ρ 1 (ρ.1 7).toNatClampNeg (nI x)) 7 (ρ.1 7 + 1)) l
set_option maxRecDepth 4096 in
theorem pushs_app : ∀ (l m : List Nat) (ρ : XS), pushs ρ (l ++ m) = pushs (pushs ρ l) m := by
  intro l
  induction l with
  | nil => intro m ρ; rfl
  | cons x l ih => intro m ρ; exact ih m _
def RdL (L : List Nat) (ρ : XS) : Prop := ρ.1 7 = nI L.length ∧ L.length ≤ 2578 ∧ ∀ p a, L[p]? = some a → ρ.2.1 1 p = nI a
def keepX (σ ρ : XS) : Prop := (∀ k, k ≠ 7 → ρ.1 k = σ.1 k) ∧ (∀ k, k ≠ 1 → ρ.2.1 k = σ.2.1 k) ∧ ρ.2.2 = σ.2.2
set_option maxRecDepth 4096 in
theorem keepX_rfl (σ : XS) : keepX σ σ := ⟨fun _ _ => rfl, fun _ _ => rfl, rfl⟩
set_option maxRecDepth 4096 in
theorem keepX_trans {σ ρ π : XS} (h : keepX σ ρ) (g : keepX ρ π) : keepX σ π := ⟨fun k hk => (g.1 k hk).trans (h.1 k hk), fun k hk => (g.2.1 k hk).trans (h.2.1 k hk), g.2.2.trans h.2.2⟩
set_option maxRecDepth 4096 in
theorem keepX_1 (σ : XS) (p : Nat) (x y : Int32) : keepX σ (stS (stA σ 1 p x) 7 y) := by
  refine ⟨fun k hk => ?_, fun k hk => ?_, rfl⟩
  · show upd σ.1 7 y k = σ.1 k
    unfold upd; rw [if_neg hk]
  · show va_up σ.2.1 1 (upd (σ.2.1 1) p x) k = σ.2.1 k
    exact va_up_ne _ _ hk
set_option maxRecDepth 4096 in
theorem Sc_keep {V : VV} {σ ρ : XS} (h : keepX σ ρ) (S : Sc V σ) : Sc V ρ := by
  obtain ⟨s1, s2, s3, s4, s5⟩ := S
  exact ⟨(h.1 2 (by omega)).trans s1, (h.1 3 (by omega)).trans s2, (h.1 4 (by omega)).trans s3, (h.1 5 (by omega)).trans s4, (h.1 6 (by omega)).trans s5⟩
set_option maxRecDepth 4096 in
theorem pushs_keep : ∀ (l : List Nat) (ρ : XS), keepX ρ (pushs ρ l) := by
  intro l
  induction l with
  | nil => intro ρ; exact keepX_rfl ρ
  | cons x l ih => intro ρ; exact keepX_trans (keepX_1 ρ _ _ _) (ih _)
set_option maxRecDepth 4096 in
theorem push_RdL {L : List Nat} {ρ : XS} (x : Nat) (h : RdL L ρ) (hl : L.length + 1 ≤ 2578) : RdL (L ++ [x]) (stS (stA ρ 1 (ρ.1 7).toNatClampNeg (nI x)) 7 (ρ.1 7 + 1)) := by
  obtain ⟨h1, h2, h3⟩ := h
  have e : (ρ.1 7).toNatClampNeg = L.length := by rw [h1, nI_clamp (by omega)]
  refine ⟨?_, by rw [List.length_append]; exact hl, fun p a hp => ?_⟩
  · show upd ρ.1 7 (ρ.1 7 + 1) 7 = _
    unfold upd; rw [if_pos rfl, h1, lit, nI_add, List.length_append]; rfl
  · show va_up ρ.2.1 1 (upd (ρ.2.1 1) (ρ.1 7).toNatClampNeg (nI x)) 1 p = nI a
    rw [va_up_self, e]
    unfold upd
    by_cases c : p = L.length
    · rw [if_pos c]; rw [c, List.getElem?_append_right (Nat.le_refl _), Nat.sub_self] at hp
      simp only [List.getElem?_cons_zero, Option.some.injEq] at hp; rw [hp]
    · rw [if_neg c]
      have hlt : p < (L ++ [x]).length := by
        rcases Nat.lt_or_ge p (L ++ [x]).length with k | k
        · exact k
        · rw [List.getElem?_eq_none k] at hp; cases hp
      rw [List.length_append] at hlt
      have : [x].length = 1 := rfl
      rw [List.getElem?_append_left (by omega)] at hp
      exact h3 p a hp
set_option maxRecDepth 4096 in
theorem pushs_RdL : ∀ (l L : List Nat) (ρ : XS), RdL L ρ → L.length + l.length ≤ 2578 → RdL (L ++ l) (pushs ρ l) := by
  intro l
  induction l with
  | nil => intro L ρ h _; rw [List.append_nil]; exact h
  | cons x l ih =>
    intro L ρ h hl
    rw [List.length_cons] at hl
    have h1 := push_RdL x h (by omega)
    have h2 := ih (L ++ [x]) _ h1 (by rw [List.length_append]; show L.length + 1 + l.length ≤ 2578; omega)
    rw [List.append_assoc] at h2
    exact h2
def Adr (nb : Nat) (V : VV) (a : Nat) : Prop := a / 1024 < nb ∧ vot V (a / 1024) = 3 ∧ a % 4 = 0 ∧ a % 1024 + 12 ≤ 1024
set_option maxRecDepth 4096 in
theorem Adr_d {nb : Nat} {V : VV} {d : Nat → Nat} (D : DX nb V d) {a : Nat} (h : Adr nb V a) (o : Nat) (ho : a % 1024 + o < 1024) : d (a + o) = vdat V (a + o) := by
  have e : a + o = 1024 * (a / 1024) + (a % 1024 + o) := by omega
  have h2 := h.2.1
  rw [e, D _ _ h.1 ho (by omega), img_3 _ h2]
set_option maxRecDepth 4096 in
theorem Adr_4 {nb : Nat} {V : VV} {d : Nat → Nat} (D : DX nb V d) {a : Nat} (h : Adr nb V a) : rd4 d a = rd4 (vdat V) a := by
  have h3 := h.2.2.2
  have e := Adr_d D h 0 (by omega)
  unfold rd4; rw [Adr_d D h 1 (by omega), Adr_d D h 2 (by omega), Adr_d D h 3 (by omega)]
  rw [Nat.add_zero] at e; rw [e]
set_option maxRecDepth 4096 in
theorem Adr_2 {nb : Nat} {V : VV} {d : Nat → Nat} (D : DX nb V d) {a : Nat} (h : Adr nb V a) : rd2 d (a + 4) = rd2 (vdat V) (a + 4) := by
  have h3 := h.2.2.2
  unfold rd2; rw [Adr_d D h 4 (by omega), Nat.add_assoc, Adr_d D h 5 (by omega)]
set_option maxRecDepth 4096 in
theorem Seg_adr {f : Nat → Nat} : ∀ (l : List Nat) (s e : Nat), Seg f l s e → ∀ a ∈ l, s ≤ a ∧ a + 12 ≤ e ∧ (s % 4 = 0 → a % 4 = 0) ∧ a + rd2 f (a + 4) ≤ e ∧ 12 ≤ rd2 f (a + 4) ∧ rd2 f (a + 4) % 4 = 0 := by
  intro l
  induction l with
  | nil => intro s e _ a h; cases h
  | cons x l ih =>
    intro s e h a ha
    obtain ⟨h1, h2, h3, h4, h5⟩ := h
    rcases List.mem_cons.mp ha with c | c
    · subst c; subst h1; exact ⟨Nat.le_refl _, by omega, fun h => h, h4, h2, h3⟩
    · have := ih _ _ h5 a c
      exact ⟨by omega, by omega, fun h => this.2.2.1 (by omega), this.2.2.2⟩
set_option maxRecDepth 4096 in
theorem Seg_le {f : Nat → Nat} : ∀ (l : List Nat) (s e : Nat), Seg f l s e → s ≤ e := by
  intro l
  induction l with
  | nil => intro s e h; exact Nat.le_of_eq h
  | cons x l ih => intro s e h; have := ih _ _ h.2.2.2.2; omega
-- the class reads a directory
def DS (nb : Nat) (V : VV) (i : Nat) : Prop := 1 ≤ vmn V i ∧ vsz V i = 1024 * vmn V i ∧ ∀ k, k < vmn V i → Seg (vdat V) (ves V i k) (1024 * vbl V i k) (1024 * vbl V i k + 1024)
set_option maxRecDepth 4096 in
theorem DS_Adr {nb : Nat} {V : VV} (O : OwnC nb V) {i k : Nat} (hl : live V i) (H : DS nb V i) (hk : k < vmn V i) {a : Nat} (ha : a ∈ ves V i k) : Adr nb V a ∧ a / 1024 = vbl V i k ∧ a % 1024 + rd2 (vdat V) (a + 4) ≤ 1024 := by
  have h := Seg_adr _ _ _ (H.2.2 k hk) a ha
  have o := O.1 i k hl hk
  have e : a / 1024 = vbl V i k := by omega
  refine ⟨⟨by rw [e]; exact o.2.1, by rw [e]; exact o.2.2.1, h.2.2.1 (by omega), by omega⟩, e, by omega⟩
set_option maxRecDepth 4096 in
theorem fl_mem {es : Nat → List Nat} : ∀ (m x : Nat) {a : Nat}, a ∈ flt es x m ↔ ∃ k, x ≤ k ∧ k < x + m ∧ a ∈ es k := by
  intro m
  induction m with
  | zero => intro x a; constructor
            · intro h; cases h
            · rintro ⟨k, h1, h2, _⟩; omega
  | succ m ih =>
    intro x a
    rw [flt, List.mem_append, ih]
    constructor
    · rintro (h | ⟨k, h1, h2, h3⟩)
      · exact ⟨x, by omega, by omega, h⟩
      · exact ⟨k, by omega, by omega, h3⟩
    · rintro ⟨k, h1, h2, h3⟩
      by_cases c : k = x
      · subst c; exact .inl h3
      · exact .inr ⟨k, by omega, by omega, h3⟩
set_option maxRecDepth 4096 in
theorem read1_X {nb : Nat} {V : VV} {d : Nat → Nat} (hn : nb ≤ 512) (D : DX nb V d) {b : Nat} (hb : b < nb) (ht : vot V b = 3) (x1 x2 x3 : Int32) :
    ∀ (l : List Nat) (a c0 : Nat) (ρ : XS) (n : Nat), Seg (vdat V) l a (1024 * b + 1024) → 1024 * b ≤ a → a % 4 = 0 → ρ.1 7 = nI c0 → c0 + l.length ≤ 2578 → l.length < n → ∀ k25,
    lfix (fun k48 t => fXX5_read_7_48 nb k25 k48 t.1 t.2.1 t.2.2.1 t.2.2.2.1 t.2.2.2.2.1 t.2.2.2.2.2) n (x1, x2, x3, nI (1024 * b), nI (a - 1024 * b), XD ρ d) = k25 (x1, x2, x3 + 1, XD (pushs ρ l) d) := by
  intro l
  induction l with
  | nil =>
    intro a c0 ρ n h1 h2 h3 h4 h5 h6 k25
    obtain ⟨n, rfl⟩ : ∃ k, n = k + 1 := ⟨n - 1, by omega⟩
    have h1 : a = 1024 * b + 1024 := h1
    show fXX5_read_7_48 nb k25 _ x1 x2 x3 (nI (1024 * b)) (nI (a - 1024 * b)) (XD ρ d) = _
    rw [show a - 1024 * b = 1024 by omega]
    have e : (1024 : Int32) = nI 1024 := lit 1024
    simp only [fXX5_read_7_48, fXX5_read_7_119, e, Int32.le_refl, if_true, pushs]
  | cons x l ih =>
    intro a c0 ρ n h1 h2 h3 h4 h5 h6 k25
    obtain ⟨n, rfl⟩ : ∃ k, n = k + 1 := ⟨n - 1, by omega⟩
    have hA := Seg_adr _ _ _ h1 x (List.mem_cons_self ..)
    obtain ⟨g1, g2, g3, g4, g5⟩ := h1
    subst g1
    rw [List.length_cons] at h5 h6
    have hadr : Adr nb V x := by
      have e : x / 1024 = b := by omega
      exact ⟨by omega, by rw [e]; exact ht, h3, by omega⟩
    have r := Adr_2 D hadr
    show fXX5_read_7_48 nb k25 _ x1 x2 x3 (nI (1024 * b)) (nI (x - 1024 * b)) (XD ρ d) = _
    have ec : (XD ρ d).1 7 = nI c0 := h4
    have ex : 1024 * b + (x - 1024 * b) = x := by omega
    have hX : stS (stA (XD ρ d) 1 c0 (nI x)) 7 (nI (c0 + 1)) = XD (stS (stA ρ 1 c0 (nI x)) 7 (nI (c0 + 1))) d := by
      rw [XD_A _ _ _ _ (by omega), XD_S]
    have hmax : (if 8 < rd2 (vdat V) (x + 4) then nI (rd2 (vdat V) (x + 4)) else nI 8) = nI (rd2 (vdat V) (x + 4)) := by rw [if_pos (by omega)]
    have hlt : rd2 (vdat V) (x + 4) < 65536 := by unfold rd2; omega
    have hns : x - 1024 * b + rd2 (vdat V) (x + 4) = x + rd2 (vdat V) (x + 4) - 1024 * b := by omega
    have := ih (x + rd2 (vdat V) (x + 4)) (c0 + 1) (stS (stA ρ 1 c0 (nI x)) 7 (nI (c0 + 1))) n g5 (by omega) (by omega) rfl (by omega) (by omega) k25
    have gen : ∀ K, fXX5_read_7_48 nb k25 K x1 x2 x3 (nI (1024 * b)) (nI (x - 1024 * b)) (XD ρ d) = K (x1, x2, x3, nI (1024 * b), nI (x + rd2 (vdat V) (x + 4) - 1024 * b), XD (stS (stA ρ 1 c0 (nI x)) 7 (nI (c0 + 1))) d) := fun K => by
      simp (disch := omega) only [fXX5_read_7_48, ec, lit, litN, nI_ltI', nI_leI', nI_eqI, nI_clampI, n_or, if_neg, nI_add, ex, hX, get2_X, r, obs, hmax, hns]
    rw [gen, this]
    show k25 (x1, x2, x3 + 1, XD (pushs (stS (stA ρ 1 c0 (nI x)) 7 (nI (c0 + 1))) l) d) = k25 (x1, x2, x3 + 1, XD (pushs (stS (stA ρ 1 (ρ.1 7).toNatClampNeg (nI x)) 7 (ρ.1 7 + 1)) l) d)
    rw [h4, nI_clamp (by omega), lit, nI_add]
set_option maxRecDepth 4096 in
theorem len_flt (es : Nat → List Nat) : ∀ (n x m : Nat), n ≤ m → (flt es x n).length ≤ (flt es x m).length := by
  intro n x m h
  obtain ⟨k, rfl⟩ : ∃ k, m = n + k := ⟨m - n, by omega⟩
  rw [flt_add, List.length_append]; omega
set_option maxRecDepth 4096 in
theorem read_X {nb : Nat} {V : VV} (A : Stc nb V) {i : Nat} (h1 : 1 ≤ i) (h2 : i ≤ vQ V * vG V) (hl : live V i) (P : Shp V i) (H : DS nb V i) (hlen : (fl V i).length ≤ 2578) (σ : XS) (d : Nat → Nat) (S : Sc V σ) (D : DX nb V d) :
    ∃ ρ, keepX σ ρ ∧ RdL (fl V i) ρ ∧ fXX5_read_7 nb (nI i) (XD σ d) = some (XD ρ d) := by
  have hg := G_lt A.1
  have hmn := mn_lt A.1 A.2.2 hl
  have hz := H.2.1
  have S0 : Sc V (stS σ 7 (nI 0)) := S
  have hs := size_X A.1 S0 D h1 h2 hl (by omega)
  have hb := blocksFor_X nb (XD (stS σ 7 (nI 0)) d) (s := vsz V i) (by omega)
  have hp : prt (vsz V i) = vmn V i := by unfold prt; omega
  rw [hp] at hb
  have key : ∃ r : XS, (r = pushs (stS σ 7 (nI 0)) (fl V i)) ∧ ∀ u : Unit, lfix ((fun _ k25 t => fXX5_read_7_25 nb k25 t.1 t.2.1 t.2.2.1 t.2.2.2) u) FU (nI i, nI (vmn V i), nI 0, XD (stS σ 7 (nI 0)) d) = some (XD r d) := by
    refine lfor (κ := Unit) (fun _ k25 t => fXX5_read_7_25 nb k25 t.1 t.2.1 t.2.2.1 t.2.2.2) (fun n (r : XS) => (nI i, nI (vmn V i), nI n, XD r d)) (fun _ r => some (XD r d)) (vmn V i) (fun n r => r = pushs (stS σ 7 (nI 0)) (flt (ves V i) 0 n)) ?_ ?_ 0 (stS σ 7 (nI 0)) FU (Nat.zero_le _) rfl (by unfold FU; omega)
    · rintro n r hn rfl
      refine ⟨_, rfl, fun _ k => ?_⟩
      have hle := len_flt (ves V i) (n + 1) 0 (vmn V i) (by omega)
      rw [flt_succ, List.length_append] at hle
      unfold fl at hlen
      have R0 : RdL [] (stS σ 7 (nI 0)) := ⟨rfl, by decide, fun p a h => by cases h⟩
      have R := pushs_RdL (flt (ves V i) 0 n) [] _ R0 (by show 0 + _ ≤ 2578; omega)
      rw [List.nil_append] at R
      have K := pushs_keep (flt (ves V i) 0 n) (stS σ 7 (nI 0))
      have S1 := Sc_keep K S0
      have bo := blockOf_X A.1 S1 D A.2.2 h1 h2 hl P hn
      obtain ⟨o0, o1, o2, _⟩ := A.2.2.1 i n hl hn
      have r1 := read1_X (by omega) D o1 o2 (nI i) (nI (vmn V i)) (nI n) (ves V i n) (1024 * vbl V i n) (flt (ves V i) 0 n).length _ FU (H.2.2 n hn) (Nat.le_refl _) (by omega) R.1 (by omega) (by unfold FU; omega) k
      rw [Nat.sub_self, ← pushs_app, ← flt_succ] at r1
      simp (disch := omega) only [fXX5_read_7_25, nI_ltI', nI_leI', nI_eqI, nI_clampI, if_neg, bo, obs, lit, litN, nI_mul, m1024]
      rw [lit, nI_add] at r1
      exact r1
    · rintro r rfl _ k
      simp (disch := omega) only [fXX5_read_7_25, nI_ltI', nI_leI', nI_eqI, nI_clampI, if_pos]
  obtain ⟨r, rfl, k2⟩ := key
  refine ⟨pushs (stS σ 7 (nI 0)) (fl V i), ?_, ?_, ?_⟩
  · have h0 : keepX σ (stS σ 7 (nI 0)) := ⟨fun k hk => ?_, fun _ _ => rfl, rfl⟩
    · exact keepX_trans h0 (pushs_keep _ _)
    show upd σ.1 7 (nI 0) k = σ.1 k
    unfold upd; rw [if_neg hk]
  · have R0 : RdL [] (stS σ 7 (nI 0)) := ⟨rfl, by decide, fun p a h => by cases h⟩
    have R := pushs_RdL (fl V i) [] _ R0 (by show 0 + _ ≤ 2578; omega)
    rw [List.nil_append] at R
    exact R
  · have k3 := k2 ()
    simp (disch := omega) only [fXX5_read_7, fXX5_read_7_0, lit, litN, XD_S, hs, obs, hb, nI_ltI', nI_leI', nI_eqI, nI_clampI, if_pos]
    exact k3
