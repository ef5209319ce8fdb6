def num (p : Nat → Nat) : Nat → Nat
  | 0 => 0
  | n + 1 => num p n + p n
theorem num_congr {p q : Nat → Nat} : ∀ {n : Nat}, (∀ j, j < n → p j = q j) → num p n = num q n
  | 0, _ => rfl
  | n + 1, h => by unfold num; rw [num_congr (fun j hj => h j (by omega)), h n (by omega)]
theorem num_upd {p q : Nat → Nat} {j : Nat} : ∀ {n : Nat}, j < n → (∀ k, k < n → k ≠ j → q k = p k) → num q n + p j = num p n + q j
  | 0, h, _ => by omega
  | n + 1, h, hq => by
    unfold num
    by_cases e : j = n
    · subst e
      rw [num_congr (p := q) (q := p) (fun k hk => hq k (by omega) (by omega))]; omega
    · have := num_upd (n := n) (p := p) (q := q) (by omega) (fun k hk hne => hq k (by omega) hne)
      rw [hq n (by omega) (by omega)]; omega
theorem num_ge {p : Nat → Nat} {j : Nat} : ∀ {n : Nat}, j < n → p j ≤ num p n
  | 0, h => by omega
  | n + 1, h => by
    unfold num
    by_cases e : j = n
    · subst e; omega
    · have := num_ge (p := p) (n := n) (j := j) (by omega); omega
theorem num_le {p : Nat → Nat} (h : ∀ j, p j ≤ 1) : ∀ n : Nat, num p n ≤ n
  | 0 => by unfold num; omega
  | n + 1 => by unfold num; have := num_le h n; have := h n; omega
theorem num_add (p : Nat → Nat) (n : Nat) : ∀ m : Nat, num p (n + m) = num p n + num (fun k => p (n + k)) m
  | 0 => by simp [num]
  | m + 1 => by
    show num p (n + m) + p (n + m) = num p n + (num (fun k => p (n + k)) m + p (n + m))
    rw [num_add p n m]; omega
theorem num_pos {p : Nat → Nat} : ∀ {n : Nat}, 0 < num p n → ∃ j, j < n ∧ p j ≠ 0
  | 0, h => by simp [num] at h
  | n + 1, h => by
    unfold num at h
    by_cases e : p n ≠ 0
    · exact ⟨n, by omega, e⟩
    · obtain ⟨j, h1, h2⟩ := num_pos (p := p) (n := n) (by omega)
      exact ⟨j, by omega, h2⟩
-- free blocks, free inodes, directories
def pfb (V : VV) (b : Nat) : Nat := if vot V b = 0 then 1 else 0
def pfi (V : VV) (i : Nat) : Nat := if vkd V i = 0 then 1 else 0
def pdc (V : VV) (i : Nat) : Nat := if vkd V i = 2 then 1 else 0
def nfb (V : VV) : Nat := num (fun k => pfb V (1 + k)) (vQ V * vP V)
def nfbg (V : VV) (x : Nat) : Nat := num (fun k => pfb V (1 + x * vP V + k)) (vP V)
def nfi (V : VV) : Nat := num (fun k => pfi V (1 + k)) (vQ V * vG V)
def nfig (V : VV) (x : Nat) : Nat := num (fun k => pfi V (x * vG V + k + 1)) (vG V)
def ndcg (V : VV) (x : Nat) : Nat := num (fun k => pdc V (x * vG V + k + 1)) (vG V)
def CntB (V : VV) : Prop := ∀ y, y < vQ V → vFB V y = nfb V ∧ ∀ x, x < vQ V → vfb V y x = nfbg V x
def CntI (V : VV) : Prop := ∀ y, y < vQ V → vFI V y = nfi V ∧ ∀ x, x < vQ V → vfi V y x = nfig V x
def CntD (V : VV) : Prop := ∀ y, y < vQ V → ∀ x, x < vQ V → vdc V y x = ndcg V x
theorem pfb_le (V : VV) (b : Nat) : pfb V b ≤ 1 := by unfold pfb; split <;> omega
theorem pfi_le (V : VV) (b : Nat) : pfi V b ≤ 1 := by unfold pfi; split <;> omega
theorem pdc_le (V : VV) (b : Nat) : pdc V b ≤ 1 := by unfold pdc; split <;> omega
theorem QP_lt {nb : Nat} {V : VV} (B : Bas nb V) : vQ V * vP V ≤ 2048 ∧ nb ≤ vQ V * vP V + 1 := by
  have hg := G_lt B
  have h1 : vQ V * vP V ≤ 8 * 256 := Nat.mul_le_mul (by omega) (by omega)
  exact ⟨by omega, B.1.2.2.2.2.2.2.1⟩
theorem nfb_lt {nb : Nat} {V : VV} (B : Bas nb V) : nfb V ≤ 2048 ∧ (∀ x, nfbg V x ≤ 256) ∧ nfi V ≤ 2064 ∧ (∀ x, nfig V x ≤ 2064) ∧ (∀ x, ndcg V x ≤ 2064) := by
  have hg := G_lt B; have hq := QP_lt B
  refine ⟨Nat.le_trans (num_le (fun _ => pfb_le _ _) _) hq.1, fun x => Nat.le_trans (num_le (fun _ => pfb_le _ _) _) (by omega), Nat.le_trans (num_le (fun _ => pfi_le _ _) _) (by omega), fun x => Nat.le_trans (num_le (fun _ => pfi_le _ _) _) (by omega), fun x => Nat.le_trans (num_le (fun _ => pdc_le _ _) _) (by omega)⟩
theorem nfb_ge {nb : Nat} {V : VV} (B : Bas nb V) {b : Nat} (h1 : 1 ≤ b) (h2 : b < nb) (h3 : vot V b = 0) : 1 ≤ nfb V ∧ 1 ≤ nfbg V ((b - 1) / vP V) := by
  have hq := QP_lt B
  obtain ⟨hx, he, hr⟩ := B.1.div h1 h2
  constructor
  · have := num_ge (p := fun k => pfb V (1 + k)) (j := b - 1) (n := vQ V * vP V) (by omega)
    simp only [pfb, show 1 + (b - 1) = b from by omega, h3, if_true] at this
    exact this
  · have := num_ge (p := fun k => pfb V (1 + (b - 1) / vP V * vP V + k)) (j := (b - 1) % vP V) hr
    simp only [pfb, show 1 + (b - 1) / vP V * vP V + (b - 1) % vP V = b from by omega, h3, if_true] at this
    exact this
-- one block's mark changes
theorem nfb_chg {nb : Nat} {V W : VV} (B : Bas nb V) (hs : W.1 = V.1) {b : Nat} (h1 : 1 ≤ b) (h2 : b < nb) (ho : ∀ c, c ≠ b → vot W c = vot V c) :
    nfb W + pfb V b = nfb V + pfb W b ∧ nfbg W ((b - 1) / vP V) + pfb V b = nfbg V ((b - 1) / vP V) + pfb W b ∧ ∀ x, x ≠ (b - 1) / vP V → nfbg W x = nfbg V x := by
  have hq := QP_lt B
  obtain ⟨hx, he, hr⟩ := B.1.div h1 h2
  have eP : vP W = vP V := congrFun hs 0
  have eQ : vQ W = vQ V := congrFun hs 1
  have hp : ∀ c, c ≠ b → pfb W c = pfb V c := fun c h => by unfold pfb; rw [ho c h]
  refine ⟨?_, ?_, fun x hxx => ?_⟩
  · have := num_upd (p := fun k => pfb V (1 + k)) (q := fun k => pfb W (1 + k)) (j := b - 1) (n := vQ V * vP V) (by omega) (fun k _ hne => hp _ (by omega))
    simp only [show 1 + (b - 1) = b from by omega] at this
    unfold nfb; rw [eP, eQ]; exact this
  · have := num_upd (p := fun k => pfb V (1 + (b - 1) / vP V * vP V + k)) (q := fun k => pfb W (1 + (b - 1) / vP V * vP V + k)) (j := (b - 1) % vP V) (n := vP V) hr (fun k _ hne => hp _ (by omega))
    simp only [show 1 + (b - 1) / vP V * vP V + (b - 1) % vP V = b from by omega] at this
    unfold nfbg; rw [eP]; exact this
  · unfold nfbg; rw [eP]
    apply num_congr
    intro k hk
    apply hp
    intro e
    have h9 := B.1.blk (x := x) (r := k) (by omega)
    rw [show x * vP V + k = b - 1 from by omega] at h9
    exact hxx h9.1.symm
theorem nfi_chg {nb : Nat} {V W : VV} (B : Bas nb V) (hs : W.1 = V.1) {b : Nat} (h1 : 1 ≤ b) (h2 : b ≤ vQ V * vG V) (ho : ∀ c, c ≠ b → vkd W c = vkd V c) :
    nfi W + pfi V b = nfi V + pfi W b ∧ nfig W ((b - 1) / vG V) + pfi V b = nfig V ((b - 1) / vG V) + pfi W b ∧ (∀ x, x ≠ (b - 1) / vG V → nfig W x = nfig V x) ∧ ndcg W ((b - 1) / vG V) + pdc V b = ndcg V ((b - 1) / vG V) + pdc W b ∧ ∀ x, x ≠ (b - 1) / vG V → ndcg W x = ndcg V x := by
  have hg := G_lt B
  obtain ⟨hx, he, hr⟩ := B.1.ino h1 h2
  have eG : vG W = vG V := congrFun hs 2
  have eQ : vQ W = vQ V := congrFun hs 1
  have hp : ∀ c, c ≠ b → pfi W c = pfi V c := fun c h => by unfold pfi; rw [ho c h]
  have hp2 : ∀ c, c ≠ b → pdc W c = pdc V c := fun c h => by unfold pdc; rw [ho c h]
  have hne : ∀ x, x ≠ (b - 1) / vG V → ∀ k, k < vG V → x * vG V + k + 1 ≠ b := fun x hxx k hk e => by
    have ee : b - 1 = x * vG V + k := by omega
    have : (b - 1) / vG V = x := by rw [ee, Nat.add_comm, Nat.add_mul_div_right _ _ (by omega), Nat.div_eq_of_lt hk, Nat.zero_add]
    exact hxx this.symm
  refine ⟨?_, ?_, fun x hxx => ?_, ?_, fun x hxx => ?_⟩
  · have := num_upd (p := fun k => pfi V (1 + k)) (q := fun k => pfi W (1 + k)) (j := b - 1) (n := vQ V * vG V) (by omega) (fun k _ hne => hp _ (by omega))
    simp only [show 1 + (b - 1) = b from by omega] at this
    unfold nfi; rw [eG, eQ]; exact this
  · have := num_upd (p := fun k => pfi V ((b - 1) / vG V * vG V + k + 1)) (q := fun k => pfi W ((b - 1) / vG V * vG V + k + 1)) (j := (b - 1) % vG V) (n := vG V) hr (fun k _ hne => hp _ (by omega))
    simp only [show (b - 1) / vG V * vG V + (b - 1) % vG V + 1 = b from by omega] at this
    unfold nfig; rw [eG]; exact this
  · unfold nfig; rw [eG]; exact num_congr (fun k hk => hp _ (hne x hxx k hk))
  · have := num_upd (p := fun k => pdc V ((b - 1) / vG V * vG V + k + 1)) (q := fun k => pdc W ((b - 1) / vG V * vG V + k + 1)) (j := (b - 1) % vG V) (n := vG V) hr (fun k _ hne => hp2 _ (by omega))
    simp only [show (b - 1) / vG V * vG V + (b - 1) % vG V + 1 = b from by omega] at this
    unfold ndcg; rw [eG]; exact this
  · unfold ndcg; rw [eG]; exact num_congr (fun k hk => hp2 _ (hne x hxx k hk))
-- taking and giving back a block
def tkB (V : VV) (b : Nat) : VV := mkB V b 1 (nfb V - 1) (nfbg V ((b - 1) / vP V) - 1)
def gvB (V : VV) (b : Nat) : VV := mkB V b 0 (nfb V + 1) (nfbg V ((b - 1) / vP V) + 1)
theorem mkB_s (V : VV) (b t F f : Nat) : (mkB V b t F f).1 = V.1 := cnt_s _ _ _ _ _ _ _
theorem mkB_t (V : VV) (b t F f c : Nat) : vot (mkB V b t F f) c = if c = b then t else vot V c := by
  show (mkB V b t F f).2.1 0 c = _
  unfold mkB; rw [cnt_a _ _ _ _ _ _ (by omega)]
  by_cases h : c = b
  · rw [if_pos h, h]; exact setA_e _ _ _ _
  · rw [if_neg h]; exact setA_n _ _ _ h
theorem mkB_a (V : VV) (b t F f : Nat) {k : Nat} (h : k ≠ 0) (h2 : k ≠ 12) : (mkB V b t F f).2.1 k = V.2.1 k := by
  unfold mkB; rw [cnt_a _ _ _ _ _ _ h2]; exact setA_o _ _ _ h
theorem mkB_m (V : VV) (b t F f : Nat) {k : Nat} (h : k ≠ 2) : (mkB V b t F f).2.2.1 k = V.2.2.1 k := by
  unfold mkB; rw [cnt_t _ _ _ _ _ _ h]; rfl
theorem mkB_l (V : VV) (b t F f : Nat) : (mkB V b t F f).2.2.2 = V.2.2.2 := cnt_l _ _ _ _ _ _ _
theorem Bas_mkB {nb : Nat} {V : VV} (B : Bas nb V) {b t : Nat} (F f : Nat) (h1 : 1 ≤ b) (h2 : b < nb) (h3 : vot V b ≠ 2) (ht : t ≠ 2) : Bas nb (mkB V b t F f) := by
  obtain ⟨b1, b2, b3, b4⟩ := B
  have eP : vP (mkB V b t F f) = vP V := congrFun (mkB_s V b t F f) 0
  have eQ : vQ (mkB V b t F f) = vQ V := congrFun (mkB_s V b t F f) 1
  have eG : vG (mkB V b t F f) = vG V := congrFun (mkB_s V b t F f) 2
  refine ⟨by rw [eP, eQ, eG]; exact b1, fun c hc1 hc2 => ?_, by rw [mkB_t, if_neg (by omega)]; exact b3, fun c hc => by rw [mkB_t, if_neg (by omega)]; exact b4 c hc⟩
  rw [eP, eG, mkB_t]
  by_cases h : c = b
  · subst h; rw [if_pos rfl, b2 _ hc1 hc2]; omega
  · rw [if_neg h]; exact b2 c hc1 hc2
theorem CntB_mkB {nb : Nat} {V : VV} (B : Bas nb V) (C : CntB V) {b t F f : Nat} (h1 : 1 ≤ b) (h2 : b < nb) (hF : F + pfb V b = nfb V + (if t = 0 then 1 else 0)) (hf : f + pfb V b = nfbg V ((b - 1) / vP V) + (if t = 0 then 1 else 0)) : CntB (mkB V b t F f) ∧ nfb (mkB V b t F f) = F := by
  have eQ : vQ (mkB V b t F f) = vQ V := congrFun (mkB_s V b t F f) 1
  have hp : pfb (mkB V b t F f) b = if t = 0 then 1 else 0 := by unfold pfb; rw [mkB_t, if_pos rfl]
  obtain ⟨c1, c2, c3⟩ := nfb_chg B (mkB_s V b t F f) h1 h2 (fun c hc => by rw [mkB_t, if_neg hc])
  rw [hp] at c1 c2
  have hN : nfb (mkB V b t F f) = F := by omega
  refine ⟨fun y hy => ⟨?_, fun x hx => ?_⟩, hN⟩
  · rw [hN]
    show (mkB V b t F f).2.1 12 y = F
    unfold mkB; rw [cnt_aa, if_pos (by rw [eQ] at hy; exact hy)]
  · rw [eQ] at hy hx
    show (mkB V b t F f).2.2.1 2 y x = _
    by_cases h : x = (b - 1) / vP V
    · have : nfbg (mkB V b t F f) x = f := by rw [h]; omega
      rw [this]; unfold mkB; rw [cnt_tt, if_pos ⟨hy, h⟩]
    · rw [c3 x h]; unfold mkB; rw [cnt_tt, if_neg (fun e => h e.2)]
      exact (C y hy).2 x hx
theorem take4_C {nb : Nat} {V : VV} {d : Nat → Nat} {σ : XS} (B : Bas nb V) (S : Sc V σ) (D : DX nb V d) (C : CntB V) {b : Nat} (h2 : b < nb) (h3 : lowB V b) :
    ∃ d', DX nb (tkB V b) d' ∧ Bas nb (tkB V b) ∧ CntB (tkB V b) ∧ nfb (tkB V b) = nfb V - 1 ∧ fXX3_take_4 nb (XD σ d) = some (nI b, XD σ d') := by
  have hx := (B.1.div h3.1 h2).1
  have hl := nfb_lt B
  have hl2 := hl.2.1 ((b - 1) / vP V)
  have hge := nfb_ge B h3.1 h2 h3.2.1
  obtain ⟨d', D', h⟩ := take4_X B S D h2 h3 (fun y hy => (C y hy).1) (fun y hy => (C y hy).2 _ hx) hge.1 hge.2 (by omega) (by omega)
  have hp : pfb V b = 1 := by unfold pfb; rw [h3.2.1]; rfl
  obtain ⟨c1, c2⟩ := CntB_mkB B C (t := 1) (F := nfb V - 1) (f := nfbg V ((b - 1) / vP V) - 1) h3.1 h2 (by simp only [hp, if_neg (show ¬ (1 : Nat) = 0 by omega)]; omega) (by simp only [hp, if_neg (show ¬ (1 : Nat) = 0 by omega)]; omega)
  exact ⟨d', D', Bas_mkB B _ _ h3.1 h2 (by have := h3.2.1; omega) (by omega), c1, c2, h⟩
theorem give4_C {nb : Nat} {V : VV} {d : Nat → Nat} {σ : XS} (B : Bas nb V) (S : Sc V σ) (D : DX nb V d) (C : CntB V) {b : Nat} (h1 : 1 ≤ b) (h2 : b < nb) (h3 : vot V b ≠ 0) (h4 : vot V b ≠ 2) :
    ∃ d', DX nb (gvB V b) d' ∧ Bas nb (gvB V b) ∧ CntB (gvB V b) ∧ nfb (gvB V b) = nfb V + 1 ∧ fXX3_giveBack_4 nb (nI b) (XD σ d) = some (XD σ d') := by
  have hg := G_lt B
  have hx := (B.1.div h1 h2).1
  have hl := nfb_lt B
  have hl2 := hl.2.1 ((b - 1) / vP V)
  obtain ⟨d', D', h⟩ := mark4_free B S D h1 h2 h3 h4 (fun y hy => (C y hy).1) (fun y hy => (C y hy).2 _ hx) (by omega) (by omega)
  have hp : pfb V b = 0 := by unfold pfb; rw [if_neg h3]
  obtain ⟨c1, c2⟩ := CntB_mkB B C (t := 0) (F := nfb V + 1) (f := nfbg V ((b - 1) / vP V) + 1) h1 h2 (by simp only [hp, if_true, Nat.add_zero]) (by simp only [hp, if_true, Nat.add_zero])
  refine ⟨d', D', Bas_mkB B _ _ h1 h2 h4 (by omega), c1, c2, ?_⟩
  simp (disch := omega) only [fXX3_giveBack_4_0, fXX3_giveBack_4, lit, litN, nI_ltI', nI_leI', nI_eqI, nI_clampI, if_pos, if_neg, if_true, if_false, obs, isUsed4_X B S D, h]
