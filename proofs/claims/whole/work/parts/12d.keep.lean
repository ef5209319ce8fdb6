def kpM (V : VV) (τ : XS) (i n x : Nat) : XS := (τ.1, va_up (va_up τ.2.1 4 (fun c => if vot V c = 3 ∧ voi V c = i ∧ n ≤ vok V c ∧ vok V c < x then nI 0 else τ.2.1 4 c)) 11 (fun j => if j = i ∧ 1 ≤ n ∧ n ≤ x then nI (vbl V i (n - 1)) else τ.2.1 11 j), τ.2.2)
set_option maxRecDepth 4096 in
theorem kp_k (V : VV) (τ : XS) (i n x : Nat) {k : Nat} (h4 : k ≠ 4) (h11 : k ≠ 11) : (kpM V τ i n x).2.1 k = τ.2.1 k := by
  show va_up (va_up τ.2.1 4 _) 11 _ k = _
  rw [va_up_ne _ _ h11, va_up_ne _ _ h4]
set_option maxRecDepth 4096 in
theorem kp_4 (V : VV) (τ : XS) (i n x c : Nat) : (kpM V τ i n x).2.1 4 c = if vot V c = 3 ∧ voi V c = i ∧ n ≤ vok V c ∧ vok V c < x then nI 0 else τ.2.1 4 c := rfl
set_option maxRecDepth 4096 in
theorem kp_11 (V : VV) (τ : XS) (i n x j : Nat) : (kpM V τ i n x).2.1 11 j = if j = i ∧ 1 ≤ n ∧ n ≤ x then nI (vbl V i (n - 1)) else τ.2.1 11 j := rfl
set_option maxRecDepth 4096 in
theorem XS_ext {a b : XS} (h1 : a.1 = b.1) (h2 : ∀ k x, a.2.1 k x = b.2.1 k x) (h3 : a.2.2 = b.2.2) : a = b := by
  obtain ⟨a1, a2, a3⟩ := a; obtain ⟨b1, b2, b3⟩ := b
  have h1 : a1 = b1 := h1
  have h3 : a3 = b3 := h3
  have h2 : a2 = b2 := funext fun k => funext fun x => h2 k x
  rw [h1, h2, h3]
set_option maxRecDepth 4096 in
theorem stA_at (τ : XS) (m i : Nat) (v : Int32) (k x : Nat) : (stA τ m i v).2.1 k x = if k = m ∧ x = i then v else τ.2.1 k x := by
  by_cases h : k = m
  · subst h
    show va_up τ.2.1 k (upd (τ.2.1 k) i v) k x = _
    rw [va_up_self]; unfold upd
    by_cases c : x = i
    · rw [if_pos c, if_pos ⟨rfl, c⟩]
    · rw [if_neg c, if_neg (fun e => c e.2)]
  · rw [stA_k _ _ _ _ h, if_neg (fun e => h e.1)]
set_option maxRecDepth 4096 in
theorem kp_0 {nb : Nat} {V : VV} (τ : XS) (i n : Nat) : kpM V τ i n 0 = τ := by
  refine XS_ext rfl (fun k x => ?_) rfl
  by_cases h4 : k = 4
  · subst h4; rw [kp_4, if_neg (by omega)]
  · by_cases h11 : k = 11
    · subst h11; rw [kp_11, if_neg (by omega)]
    · rw [kp_k _ _ _ _ _ h4 h11]
set_option maxRecDepth 4096 in
theorem kp_free {nb : Nat} {V : VV} (B : Bas nb V) (O : OwnC nb V) (τ : XS) {i n x : Nat} (hl : live V i) (h1 : n ≤ x) (h2 : x < vmn V i) : stA (kpM V τ i n x) 4 (vbl V i x) (nI 0) = kpM V τ i n (x + 1) := by
  have o := O.1 i x hl h2
  refine XS_ext rfl (fun k c => ?_) rfl
  rw [stA_at]
  by_cases h4 : k = 4
  · subst h4; rw [kp_4, kp_4]
    by_cases e : c = vbl V i x
    · rw [if_pos ⟨rfl, e⟩, if_pos (by rw [e]; omega)]
    · rw [if_neg (fun z => e z.2)]
      by_cases c1 : vot V c = 3 ∧ voi V c = i ∧ n ≤ vok V c ∧ vok V c < x
      · rw [if_pos c1, if_pos (by omega)]
      · rw [if_neg c1, if_neg]
        rintro ⟨z1, z2, z3, z4⟩
        have e1 : vok V c = x := by omega
        have hc : c < nb := by
          rcases Nat.lt_or_ge c nb with k | k
          · exact k
          · have := B.2.2.2 c k; omega
        have := (O.2.1 c hc z1).2.2
        rw [z2, e1] at this; exact e this.symm
  · rw [if_neg (fun z => h4 z.1)]
    by_cases h11 : k = 11
    · subst h11; rw [kp_11, kp_11]
      by_cases e : c = i ∧ 1 ≤ n ∧ n ≤ x
      · rw [if_pos e, if_pos (by omega)]
      · rw [if_neg e, if_neg (by omega)]
    · rw [kp_k _ _ _ _ _ h4 h11, kp_k _ _ _ _ _ h4 h11]
set_option maxRecDepth 4096 in
theorem kp_last {V : VV} (τ : XS) {i n x : Nat} (h1 : x + 1 = n) : stA (kpM V τ i n x) 11 i (nI (vbl V i x)) = kpM V τ i n (x + 1) := by
  refine XS_ext rfl (fun k c => ?_) rfl
  rw [stA_at]
  by_cases h4 : k = 4
  · subst h4; rw [kp_4, kp_4, if_neg (by omega), if_neg (by omega), if_neg (by omega)]
  · by_cases h11 : k = 11
    · subst h11; rw [kp_11, kp_11]
      by_cases e : c = i
      · rw [if_pos ⟨rfl, e⟩, if_pos (by omega), ← h1]; rfl
      · rw [if_neg (fun z => e z.2), if_neg (fun z => e z.1), if_neg (fun z => e z.1)]
    · rw [if_neg (fun z => h11 z.1), kp_k _ _ _ _ _ h4 h11, kp_k _ _ _ _ _ h4 h11]
set_option maxRecDepth 4096 in
theorem kp_skip {V : VV} (τ : XS) {i n x : Nat} (h1 : x + 1 < n) : kpM V τ i n x = kpM V τ i n (x + 1) := by
  refine XS_ext rfl (fun k c => ?_) rfl
  by_cases h4 : k = 4
  · subst h4; rw [kp_4, kp_4, if_neg (by omega), if_neg (by omega)]
  · by_cases h11 : k = 11
    · subst h11; rw [kp_11, kp_11, if_neg (by omega), if_neg (by omega)]
    · rw [kp_k _ _ _ _ _ h4 h11, kp_k _ _ _ _ _ h4 h11]
def kpE (ρ : XS) (i n fs last : Nat) : XS := stA (if n = 0 then stA ρ 10 i (nI 0) else stA (stA ρ 10 i (nI fs)) 5 last (nI 0)) 9 i (nI n)
def kpD (ρ : XS) (i n db : Nat) : XS := if n ≤ 268 ∧ db ≠ 0 then stA (stA ρ 4 db (nI 0)) 13 i (nI 0) else ρ
def kpS (ρ : XS) (i n sg : Nat) : XS := if n ≤ 12 ∧ sg ≠ 0 then stA (stA ρ 4 sg (nI 0)) 12 i (nI 0) else ρ
def kpF (ρ : XS) (i n fr : Nat) : XS := stA (if fr = 0 then ρ else if n ≤ 268 then stA ρ 4 fr (nI 0) else stA ρ 5 fr (nI 0)) 14 i (nI (if n ≤ 268 then 0 else fr))
set_option maxRecDepth 4096 in
theorem nb0 : vp_nar .boolean (nI 0) = nI 0 := by decide +kernel
set_option maxRecDepth 4096 in
theorem k251_M (nb : Nat) (ρ : XS) (f : Nat → Nat) {i n fs last : Nat} (hi : i < 2100) (hn : n < 512) (h10 : ρ.2.1 10 i = nI fs) (h11 : 0 < n → ρ.2.1 11 i = nI last) (hlast : last < 512) : fMX12_keep_0_251 nb (nI i) (nI n) (XD ρ f) = some (XD (kpE ρ i n fs last) f) := by
  have x10 : (XD ρ f).2.1 10 i = nI fs := h10
  unfold kpE
  by_cases c : n = 0
  · rw [if_pos c]; subst c
    simp (disch := omega) only [fMX12_keep_0_251, fMX12_keep_0_270, fMX12_keep_0_287, lit, litN, nI_ltI', nI_leI', nI_eqI, nI_clampI, n_or, if_neg, if_pos, XD_A, if_true]
  · rw [if_neg c]
    have x11 : (XD (stA ρ 10 i (nI fs)) f).2.1 11 i = nI last := h11 (by omega)
    simp (disch := omega) only [fMX12_keep_0_251, fMX12_keep_0_270, fMX12_keep_0_287, lit, litN, nI_ltI', nI_leI', nI_eqI, nI_clampI, n_or, if_neg, x10, XD_A, x11]
set_option maxRecDepth 4096 in
theorem k216_M (nb : Nat) (ρ : XS) (f : Nat → Nat) {i n fs last db : Nat} (hi : i < 2100) (hn : n < 512) (h10 : ρ.2.1 10 i = nI fs) (h11 : 0 < n → ρ.2.1 11 i = nI last) (hlast : last < 512) (h13 : ρ.2.1 13 i = nI db) (hdb : db < 512) : fMX12_keep_0_216 nb (nI i) (nI n) (XD ρ f) = some (XD (kpE (kpD ρ i n db) i n fs last) f) := by
  have x13 : (XD ρ f).2.1 13 i = nI db := h13
  unfold kpD
  by_cases c : n ≤ 268
  · by_cases c2 : db = 0
    · rw [if_neg (fun e => e.2 c2)]; subst c2
      have g := k251_M nb ρ f hi hn h10 h11 hlast
      simp (disch := omega) only [fMX12_keep_0_216, lit, litN, nI_ltI', nI_leI', nI_eqI, nI_clampI, n_or, if_neg, x13, if_true]
      exact g
    · rw [if_pos ⟨c, c2⟩]
      have g := k251_M nb (stA (stA ρ 4 db (nI 0)) 13 i (nI 0)) f hi hn h10 h11 hlast
      simp (disch := omega) only [fMX12_keep_0_216, lit, litN, nI_ltI', nI_leI', nI_eqI, nI_clampI, n_or, if_neg, x13, XD_A, nb0]
      exact g
  · rw [if_neg (fun e => c e.1)]
    have g := k251_M nb ρ f hi hn h10 h11 hlast
    simp (disch := omega) only [fMX12_keep_0_216, lit, litN, nI_ltI', nI_leI', nI_eqI, nI_clampI, if_pos]
    exact g
set_option maxRecDepth 4096 in
theorem kpS_at (ρ : XS) (i n sg k x : Nat) (h4 : k ≠ 4) (h12 : k ≠ 12) : (kpS ρ i n sg).2.1 k x = ρ.2.1 k x := by
  unfold kpS; split
  · rw [stA_k _ _ _ _ h12, stA_k _ _ _ _ h4]
  · rfl
set_option maxRecDepth 4096 in
theorem k181_M (nb : Nat) (ρ : XS) (f : Nat → Nat) {i n fs last db sg fr : Nat} (hi : i < 2100) (hn : n < 512) (h10 : ρ.2.1 10 i = nI fs) (h11 : 0 < n → ρ.2.1 11 i = nI last) (hlast : last < 512) (h13 : ρ.2.1 13 i = nI db) (hdb : db < 512) (h12 : ρ.2.1 12 i = nI sg) (hsg : sg < 512) :
    fMX12_keep_0_181 nb (nI i) (nI n) (nI fr) (nI i) (XD ρ f) = some (XD (kpE (kpD (kpS (stA ρ 14 i (nI fr)) i n sg) i n db) i n fs last) f) := by
  have x12 : (XD (stA ρ 14 i (nI fr)) f).2.1 12 i = nI sg := h12
  unfold kpS
  by_cases c : n ≤ 12
  · by_cases c2 : sg = 0
    · rw [if_neg (fun e => e.2 c2)]; subst c2
      have g := k216_M nb (stA ρ 14 i (nI fr)) f hi hn h10 h11 hlast h13 hdb
      simp (disch := omega) only [fMX12_keep_0_181, lit, litN, nI_ltI', nI_leI', nI_eqI, nI_clampI, n_or, if_neg, XD_A, x12, if_true]
      exact g
    · rw [if_pos ⟨c, c2⟩]
      have g := k216_M nb (stA (stA (stA ρ 14 i (nI fr)) 4 sg (nI 0)) 12 i (nI 0)) f hi hn h10 h11 hlast h13 hdb
      simp (disch := omega) only [fMX12_keep_0_181, lit, litN, nI_ltI', nI_leI', nI_eqI, nI_clampI, n_or, if_neg, XD_A, x12, nb0]
      exact g
  · rw [if_neg (fun e => c e.1)]
    have g := k216_M nb (stA ρ 14 i (nI fr)) f hi hn h10 h11 hlast h13 hdb
    simp (disch := omega) only [fMX12_keep_0_181, lit, litN, nI_ltI', nI_leI', nI_eqI, nI_clampI, n_or, if_neg, if_pos, XD_A]
    exact g
set_option maxRecDepth 4096 in
theorem lf2n {α β : Type} (b : (α → Option β) → α → Option β) (n : Nat) (t : α) : lfix b (n + 1 + 1) t = b (b (lfix b n)) t := rfl
set_option maxRecDepth 4096 in
theorem lf2 {α β : Type} (b : (α → Option β) → α → Option β) (t : α) : lfix b FU t = b (b (lfix b 1099511627774)) t := lf2n b 1099511627774 t
set_option maxRecDepth 4096 in
theorem k92_M (nb : Nat) (ρ : XS) (f : Nat → Nat) {i n fs last db sg fr : Nat} (hi : i < 2100) (hn : n < 512) (h10 : ρ.2.1 10 i = nI fs) (h11 : 0 < n → ρ.2.1 11 i = nI last) (hlast : last < 512) (h13 : ρ.2.1 13 i = nI db) (hdb : db < 512) (h12 : ρ.2.1 12 i = nI sg) (hsg : sg < 512) (h14 : ρ.2.1 14 i = nI fr) (hfr : fr < 512) (h5 : fr ≠ 0 → ρ.2.1 5 fr = nI 0) (hw : 268 < n → fr ≠ 0) :
    fMX12_keep_0_92 nb (nI i) (nI n) (nI fr) (if n ≤ 268 then nI 0 else nI 1) (XD ρ f) = some (XD (kpE (kpD (kpS (kpF ρ i n fr) i n sg) i n db) i n fs last) f) := by
  have hm1 : nI 0 - nI 1 = -nI 1 := by decide +kernel
  have h11' : nI 1 - nI 1 = nI 0 := by decide +kernel
  have hne : ¬ nI 0 = -nI 1 := by decide +kernel
  unfold kpF
  by_cases c0 : fr = 0
  · have c1 : n ≤ 268 := by omega
    subst c0
    rw [if_pos c1, if_pos rfl, if_pos c1]
    have g := k181_M nb ρ f (fr := 0) hi hn h10 h11 hlast h13 hdb h12 hsg
    simp only [fMX12_keep_0_92, lit, litN]
    rw [lf2]
    have s2 : ∀ K, fMX12_keep_0_100 nb K (nI i) (nI n) (nI 0) (nI 0) (nI 0) (nI 0) (XD ρ f) = fMX12_keep_0_181 nb (nI i) (nI n) (nI 0) (nI i) (XD ρ f) := fun K => by
      simp (disch := omega) only [fMX12_keep_0_100, fMX12_keep_0_161, lit, litN, if_true]
    rw [s2]
    exact g
  · have x5 : (XD ρ f).2.1 5 fr = nI 0 := h5 c0
    rw [if_neg c0]
    by_cases c1 : n ≤ 268
    · rw [if_pos c1, if_pos c1, if_pos c1]
      have y5 : (XD (stA ρ 4 fr (nI 0)) f).2.1 5 fr = nI 0 := x5
      have g := k181_M nb (stA ρ 4 fr (nI 0)) f (fr := 0) hi hn h10 h11 hlast h13 hdb h12 hsg
      simp only [fMX12_keep_0_92, lit, litN]
      rw [lf2]
      have s1 : ∀ K, fMX12_keep_0_100 nb K (nI i) (nI n) (nI fr) (nI 0) (nI 0) (nI 0) (XD ρ f) = K (nI i, nI n, nI 0, nI 0, nI 1, nI 0, XD (stA ρ 4 fr (nI 0)) f) := fun K => by
        simp (disch := omega) only [fMX12_keep_0_100, fMX12_keep_0_120, fMX12_keep_0_133, lit, litN, nI_ltI', nI_leI', nI_eqI, nI_clampI, n_or, if_neg, XD_A, nb0, hm1, hne, if_false, y5, nI_add, Nat.zero_add]
      have s2 : ∀ K, fMX12_keep_0_100 nb K (nI i) (nI n) (nI 0) (nI 0) (nI 1) (nI 0) (XD (stA ρ 4 fr (nI 0)) f) = fMX12_keep_0_181 nb (nI i) (nI n) (nI 0) (nI i) (XD (stA ρ 4 fr (nI 0)) f) := fun K => by
        simp (disch := omega) only [fMX12_keep_0_100, fMX12_keep_0_161, lit, litN, if_true]
      rw [s1, s2]
      exact g
    · rw [if_neg c1, if_neg c1, if_neg c1]
      have x14 : (XD (stA ρ 5 fr (nI 0)) f).2.1 14 i = nI fr := h14
      have g := k181_M nb (stA ρ 5 fr (nI 0)) f (fr := fr) hi hn h10 h11 hlast h13 hdb h12 hsg
      simp only [fMX12_keep_0_92, lit, litN]
      rw [lf2]
      have s1 : ∀ K, fMX12_keep_0_100 nb K (nI i) (nI n) (nI fr) (nI 1) (nI 0) (nI 0) (XD ρ f) = K (nI i, nI n, nI 0, nI 1, nI 1, nI fr, XD ρ f) := fun K => by
        simp (disch := omega) only [fMX12_keep_0_100, fMX12_keep_0_120, fMX12_keep_0_133, lit, litN, nI_ltI', nI_leI', nI_eqI, nI_clampI, n_or, if_neg, if_pos, XD_A, h11', if_true, x5, nI_add, Nat.zero_add]
      have s2 : ∀ K, fMX12_keep_0_100 nb K (nI i) (nI n) (nI 0) (nI 1) (nI 1) (nI fr) (XD ρ f) = fMX12_keep_0_181 nb (nI i) (nI n) (nI fr) (nI i) (XD (stA ρ 5 fr (nI 0)) f) := fun K => by
        simp (disch := omega) only [fMX12_keep_0_100, fMX12_keep_0_161, lit, litN, if_true, nI_ltI', nI_leI', nI_eqI, nI_clampI, n_or, if_neg, XD_A, x14]
      rw [s1, s2]
      exact g
