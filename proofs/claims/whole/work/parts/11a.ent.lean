-- writes into a data block
def Loc (b : Nat) (G : (Nat → Nat) → Nat → Nat) : Prop := ∀ f x, (x / 1024 ≠ b → G f x = f x) ∧ ∀ g, f x = g x → G f x = G g x
set_option maxRecDepth 4096 in
theorem Loc_id (b : Nat) : Loc b (fun f => f) := fun _ _ => ⟨fun _ => rfl, fun _ h => h⟩
set_option maxRecDepth 4096 in
theorem Loc_comp {b : Nat} {G H : (Nat → Nat) → Nat → Nat} (g : Loc b G) (h : Loc b H) : Loc b (fun f => G (H f)) := fun f x => ⟨fun c => ((g (H f) x).1 c).trans ((h f x).1 c), fun k e => (g (H f) x).2 (H k) ((h f x).2 k e)⟩
set_option maxRecDepth 4096 in
theorem Loc_wrN {b a n : Nat} (v : Nat) (h1 : 1024 * b ≤ a) (h2 : a + n ≤ 1024 * b + 1024) : Loc b (fun f => wrN f a n v) := fun f x => ⟨fun c => by show wrN f a n v x = f x; unfold wrN; rw [if_neg (by omega)], fun g e => by show wrN f a n v x = wrN g a n v x; unfold wrN; rw [e]⟩
set_option maxRecDepth 4096 in
theorem DX_loc {nb : Nat} {V : VV} {d : Nat → Nat} (D : DX nb V d) {b : Nat} {G : (Nat → Nat) → Nat → Nat} (hb : b < nb) (ht : vot V b = 3) (h : Loc b G) : DX nb (setR V 15 (G (vdat V))) (G d) := by
  refine DX_dat D (b0 := b) (by omega) (fun _ o ho => ?_) (fun a ha => ⟨(h d a).1 ha, (h (vdat V) a).1 ha⟩)
  exact (h d _).2 _ (by rw [D b o hb ho (by omega), img_3 _ ht])
def entW (f : Nat → Nat) (a i ln nl kd : Nat) (w : Nat → Nat) : Nat → Nat := fun x =>
  if x < a then f x else if x < a + 4 then byt i (x - a) else if x < a + 6 then byt ln (x - (a + 4)) else if x = a + 6 then nl % 256 else if x = a + 7 then kd % 256 else if x < a + 8 + nl then w (x - (a + 8)) % 256 else if x < a + spc nl then 0 else f x
set_option maxRecDepth 4096 in
theorem spc_ge (n : Nat) : 8 + n ≤ spc n ∧ spc n ≤ 11 + n ∧ spc n % 4 = 0 := by unfold spc; omega
set_option maxRecDepth 4096 in
theorem Loc_ent {b a i ln nl kd : Nat} {w : Nat → Nat} (h1 : 1024 * b ≤ a) (h2 : a + spc nl ≤ 1024 * b + 1024) : Loc b (fun f => entW f a i ln nl kd w) := fun f x => by
  have := spc_ge nl
  refine ⟨fun c => ?_, fun g e => by show entW f a i ln nl kd w x = entW g a i ln nl kd w x; unfold entW; rw [e]⟩
  show entW f a i ln nl kd w x = f x
  unfold entW
  by_cases c1 : x < a
  · rw [if_pos c1]
  · rw [if_neg c1, if_neg (by omega), if_neg (by omega), if_neg (by omega), if_neg (by omega), if_neg (by omega), if_neg (by omega)]
def nmW (f : Nat → Nat) (a : Nat) (w : Nat → Nat) : Nat → Nat → Nat
  | 0 => f
  | n + 1 => wr1 (nmW f a w n) (a + 8 + n) (w n % 256)
set_option maxRecDepth 4096 in
theorem nmW_eq (f : Nat → Nat) (a : Nat) (w : Nat → Nat) : ∀ n x, nmW f a w n x = if a + 8 ≤ x ∧ x < a + 8 + n then w (x - (a + 8)) % 256 else f x := by
  intro n
  induction n with
  | zero => intro x; rw [if_neg (by omega)]; rfl
  | succ n ih =>
    intro x
    show wr1 (nmW f a w n) (a + 8 + n) (w n % 256) x = _
    unfold wr1
    by_cases c : x = a + 8 + n
    · rw [if_pos c, if_pos (by omega), c, show a + 8 + n - (a + 8) = n by omega, Nat.mod_mod]
    · rw [if_neg c, ih]
      by_cases c2 : a + 8 ≤ x ∧ x < a + 8 + n
      · rw [if_pos c2, if_pos (by omega)]
      · rw [if_neg c2, if_neg (by omega)]
set_option maxRecDepth 4096 in
theorem ent_eq (f : Nat → Nat) (a i ln nl kd : Nat) (w : Nat → Nat) : nmW (wr1 (wr1 (wrN (wrN (wrF f a (a + spc nl) 0) a 4 i) (a + 4) 2 ln) (a + 6) nl) (a + 7) kd) a w nl = entW f a i ln nl kd w := by
  have hs := spc_ge nl
  funext x
  rw [nmW_eq]
  unfold entW wr1 wrN wrF
  by_cases c1 : x < a
  · simp (disch := omega) only [if_pos, if_neg]
  by_cases c2 : x < a + 4
  · simp (disch := omega) only [if_pos, if_neg]
  by_cases c3 : x < a + 6
  · simp (disch := omega) only [if_pos, if_neg]
  by_cases c4 : x = a + 6
  · simp (disch := omega) only [if_pos, if_neg]
  by_cases c5 : x = a + 7
  · simp (disch := omega) only [if_pos, if_neg]
  by_cases c6 : x < a + 8 + nl
  · simp (disch := omega) only [if_pos, if_neg]
  by_cases c7 : x < a + spc nl
  · simp (disch := omega) only [if_pos, if_neg]
  · simp (disch := omega) only [if_neg]
set_option maxRecDepth 4096 in
theorem ent_over {f g : Nat → Nat} {a i ln nl kd : Nat} {w : Nat → Nat} (h : ∀ x, x < a ∨ a + spc nl ≤ x → f x = g x) : entW f a i ln nl kd w = entW g a i ln nl kd w := by
  have hs := spc_ge nl
  funext x
  unfold entW
  by_cases c1 : x < a
  · rw [if_pos c1, if_pos c1, h x (.inl c1)]
  · rw [if_neg c1, if_neg c1]
    by_cases c2 : x < a + spc nl
    · simp only [c2, if_true]
    · rw [h x (.inr (by omega))]
set_option maxRecDepth 4096 in
theorem fillEntry_X {nb : Nat} {w : Nat → Nat} {ρ : XS} (d : Nat → Nat) (hn : nb ≤ 512) (T : TP w ρ) {a i nl kd : Nat} {y : Int32} (hnl : nl ≤ 255) (ha : a + spc nl ≤ nb * 1024) (hk : kd = 1 ∨ kd = 2) (hy : y = if kd = 2 then nI 1 else nI 0) :
    fXX5_fillEntry_7_16 nb (nI a) (nI i) y (nI nl) (XD ρ d) = some (XD ρ (entW d a i (rd2 d (a + 4)) nl kd w)) := by
  have hs := spc_ge nl
  have sp := spaceFor_X nb (XD ρ d) (n := nl) (by omega)
  have key : ∀ e : Nat → Nat, ∃ e' : Nat → Nat, e' = nmW e a w nl ∧ ∀ u : Unit, lfix ((fun _ k85 t => fXX5_fillEntry_7_16_85 nb k85 t.1 t.2.1 t.2.2.1 t.2.2.2) u) FU (nI a, nI nl, nI 0, XD ρ e) = some (XD ρ e') := fun e => by
    refine lfor (κ := Unit) (fun _ k85 t => fXX5_fillEntry_7_16_85 nb k85 t.1 t.2.1 t.2.2.1 t.2.2.2) (fun k (e' : Nat → Nat) => (nI a, nI nl, nI k, XD ρ e')) (fun _ e' => some (XD ρ e')) nl (fun k e' => e' = nmW e a w k) ?_ ?_ 0 e FU (Nat.zero_le _) rfl (by unfold FU; omega)
    · rintro k e' hk rfl
      refine ⟨_, rfl, fun _ K => ?_⟩
      have v := valueAt_X nb (nmW e a w k) T (k := k) (by omega)
      simp (disch := omega) only [fXX5_fillEntry_7_16_85, lit, litN, nI_ltI', nI_leI', nI_eqI, nI_clampI, if_neg, v, obs, nI_add, put_X, nmW]
    · rintro e' rfl _ K
      simp (disch := omega) only [fXX5_fillEntry_7_16_85, nI_ltI', nI_leI', nI_eqI, nI_clampI, if_pos]
  obtain ⟨e', he, h⟩ := key (wr1 (wr1 (wrN (wrN (wrF d a (a + spc nl) 0) a 4 i) (a + 4) 2 (rd2 d (a + 4))) (a + 6) nl) (a + 7) kd)
  have h' := h ()
  rw [he, ent_eq] at h'
  rcases hk with rfl | rfl
  · rw [if_neg (by omega)] at hy; subst hy
    simp (disch := omega) only [fXX5_fillEntry_7_16, fXX5_fillEntry_7_16_0, fXX5_fillEntry_7_16_79, lit, litN, nI_add, get2_X, obs, sp, fill_X, put4_X, wr4_N, put2_X, wr2_N, put_X, if_true]
    exact h'
  · rw [if_pos rfl] at hy; subst hy
    simp (disch := omega) only [fXX5_fillEntry_7_16, fXX5_fillEntry_7_16_0, fXX5_fillEntry_7_16_79, lit, litN, nI_add, get2_X, obs, sp, fill_X, put4_X, wr4_N, put2_X, wr2_N, put_X, nI_eqI, if_neg]
    exact h'
set_option maxRecDepth 4096 in
theorem split_X {nb : Nat} {V : VV} {d : Nat → Nat} {ρ : XS} {L : List Nat} (hn : nb ≤ 512) (D : DX nb V d) (R : RdL L ρ) (hL : LO nb V L) {p a : Nat} (h : L[p]? = some a) (hr : usd (vdat V) a + 12 ≤ rd2 (vdat V) (a + 4)) :
    fXX5_split_7 nb (nI p) (XD ρ d) = some (nI (a + usd (vdat V) a), XD ρ (wrN (wrN d (a + 4) 2 (usd (vdat V) a)) (a + usd (vdat V) a + 4) 2 (rd2 (vdat V) (a + 4) - usd (vdat V) a))) := by
  have e := entryAt_X nb d R h
  have u := usedBy_X hn D R hL h
  have l := lengthOf_X hn D R hL h
  obtain ⟨a1, a2, a3, a4⟩ := hL a (get_mem h)
  have := a1.1
  simp (disch := omega) only [fXX5_split_7_0, fXX5_split_7, e, obs, u, l, lit, litN, nI_add, put2_X, wr2_N, nI_sub]
set_option maxRecDepth 4096 in
theorem open_X {nb : Nat} (ρ : XS) (d : Nat → Nat) (hn : nb ≤ 512) {b : Nat} (hb : b < nb) : fXX5_open_7 nb (nI b) (XD ρ d) = some (nI (1024 * b), XD ρ (wrN d (1024 * b + 4) 2 1024)) := by
  simp (disch := omega) only [fXX5_open_7_0, fXX5_open_7, obs, lit, litN, nI_mul, m1024, nI_add, put2_X, wr2_N]
set_option maxRecDepth 4096 in
theorem drop0_X {nb : Nat} {ρ : XS} {L : List Nat} (d : Nat → Nat) (hn : nb ≤ 512) (R : RdL L ρ) {p a : Nat} (h : L[p]? = some a) (ha : a + 12 ≤ nb * 1024) (h0 : a % 1024 = 0) : fXX5_drop_7 nb (nI p) (XD ρ d) = some (XD ρ (wrN d a 4 0)) := by
  have e := entryAt_X nb d R h
  simp (disch := omega) only [fXX5_drop_7_0, fXX5_drop_7, e, obs, lit, litN, nI_div, nI_mul, nI_sub_dm, n_sdm, h0, if_true, put4_X, wr4_N]
set_option maxRecDepth 4096 in
theorem drop1_X {nb : Nat} {V : VV} {d : Nat → Nat} {ρ : XS} {L : List Nat} (hn : nb ≤ 512) (D : DX nb V d) (R : RdL L ρ) (hL : LO nb V L) {p a b : Nat} (h : L[p + 1]? = some a) (hb : L[p]? = some b) (h0 : a % 1024 ≠ 0) :
    fXX5_drop_7 nb (nI (p + 1)) (XD ρ d) = some (XD ρ (wrN d (b + 4) 2 (rd2 (vdat V) (b + 4) + rd2 (vdat V) (a + 4)))) := by
  have e := entryAt_X nb d R h
  have e2 := entryAt_X nb d R hb
  have l := lengthOf_X hn D R hL h
  have l2 := lengthOf_X hn D R hL hb
  obtain ⟨a1, a2, a3, a4⟩ := hL a (get_mem h)
  obtain ⟨b1, b2, b3, b4⟩ := hL b (get_mem hb)
  have := a1.1
  have := b1.1
  have hs : nI (p + 1) - nI 1 = nI p := by rw [nI_sub (by omega), Nat.add_sub_cancel]
  simp (disch := omega) only [fXX5_drop_7_0, fXX5_drop_7, e, e2, obs, lit, litN, nI_div, nI_mul, nI_sub_dm, n_sdm, nI_eqI, if_neg, hs, l, l2, nI_add, put2_X, wr2_N]
def dotn (_ : Nat) : Nat := 46
def dotW (f : Nat → Nat) (b i p : Nat) : Nat → Nat := entW (entW f (1024 * b) i 12 1 2 dotn) (1024 * b + 12) p 1012 2 2 dotn
def dotC (b i p : Nat) (f : Nat → Nat) : Nat → Nat := wrN (wr1 (wr1 (wrN (wrN (wr1 (wr1 (wr1 (wrN (wrN f (1024 * b) 4 i) (1024 * b + 4) 2 12) (1024 * b + 6) 1) (1024 * b + 7) 2) (1024 * b + 8) 46) (1024 * b + 12) 4 p) (1024 * b + 12 + 4) 2 1012) (1024 * b + 12 + 6) 2) (1024 * b + 12 + 7) 2) (1024 * b + 12 + 8) 2 11822
set_option maxRecDepth 4096 in
theorem layDots_X {nb : Nat} (ρ : XS) (d : Nat → Nat) (hn : nb ≤ 512) {b : Nat} (hb : b < nb) (i p : Nat) : fXX5_layDots_7 nb (nI b) (nI i) (nI p) (XD ρ d) = some (XD ρ (dotC b i p d)) := by
  simp (disch := omega) only [fXX5_layDots_7_0, fXX5_layDots_7, obs, lit, litN, nI_mul, m1024, nI_add, put4_X, put2_X, put_X, wr2_N, wr4_N, dotC]
set_option maxRecDepth 4096 in
theorem Loc_dotC (b i p : Nat) : Loc b (dotC b i p) := by
  have h := fun n o v (ho : o + n ≤ 1024) => Loc_wrN (b := b) (a := 1024 * b + o) (n := n) v (by omega) (by omega)
  have e : dotC b i p = fun f => wrN (wrN (wrN (wrN (wrN (wrN (wrN (wrN (wrN (wrN f (1024 * b + 0) 4 i) (1024 * b + 4) 2 12) (1024 * b + 6) 1 1) (1024 * b + 7) 1 2) (1024 * b + 8) 1 46) (1024 * b + 12) 4 p) (1024 * b + 16) 2 1012) (1024 * b + 18) 1 2) (1024 * b + 19) 1 2) (1024 * b + 20) 2 11822 := by
    funext f; unfold dotC; simp only [wr1_N, Nat.add_assoc, Nat.add_zero]
  rw [e]
  exact Loc_comp (h 2 20 _ (by omega)) (Loc_comp (h 1 19 _ (by omega)) (Loc_comp (h 1 18 _ (by omega)) (Loc_comp (h 2 16 _ (by omega)) (Loc_comp (h 4 12 _ (by omega)) (Loc_comp (h 1 8 _ (by omega)) (Loc_comp (h 1 7 _ (by omega)) (Loc_comp (h 1 6 _ (by omega)) (Loc_comp (h 2 4 _ (by omega)) (h 4 0 _ (by omega))))))))))
set_option maxRecDepth 4096 in
theorem dotC_eq {f : Nat → Nat} {b i p : Nat} (hz : ∀ o, o < 1024 → f (1024 * b + o) = 0) : dotC b i p f = dotW f b i p := by
  funext x
  unfold dotC dotW entW wr1 wrN dotn
  rw [show spc 1 = 12 from rfl, show spc 2 = 12 from rfl]
  by_cases c1 : x < 1024 * b
  · simp (disch := omega) only [if_pos, if_neg]
  by_cases c2 : 1024 * b + 24 ≤ x
  · simp (disch := omega) only [if_pos, if_neg]
  obtain ⟨o, rfl⟩ : ∃ o, x = 1024 * b + o := ⟨x - 1024 * b, by omega⟩
  have z := hz o (by omega)
  by_cases a1 : o < 4
  · simp (disch := omega) only [if_pos, if_neg]
  by_cases a2 : o < 6
  · simp (disch := omega) only [if_pos, if_neg]
  by_cases a3 : o = 6
  · simp (disch := omega) only [if_pos, if_neg]
  by_cases a4 : o = 7
  · simp (disch := omega) only [if_pos, if_neg]
  by_cases a5 : o = 8
  · simp (disch := omega) only [if_pos, if_neg]
  by_cases a6 : o < 12
  · simp (disch := omega) only [if_pos, if_neg]; exact z
  by_cases b1 : o < 16
  · simp (disch := omega) only [if_pos, if_neg]
  by_cases b2 : o < 18
  · simp (disch := omega) only [if_pos, if_neg, Nat.add_assoc]
  by_cases b3 : o = 18
  · simp (disch := omega) only [if_pos, if_neg]
  by_cases b4 : o = 19
  · simp (disch := omega) only [if_pos, if_neg]
  by_cases b5 : o = 20
  · subst b5; simp (disch := omega) only [if_pos, if_neg, Nat.add_assoc, Nat.sub_self]
    rfl
  by_cases b6 : o = 21
  · subst b6; simp (disch := omega) only [if_pos, if_neg, Nat.add_assoc]
    rw [show 1024 * b + 21 - (1024 * b + (12 + 8)) = 1 by omega]; rfl
  · simp (disch := omega) only [if_pos, if_neg]; exact z
