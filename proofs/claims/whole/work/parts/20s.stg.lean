def Stg (nb : Nat) (V C : VV) (h e i n t : Nat) (w : Nat → Nat) (ln : Nat) : Prop :=
  Stc nb C ∧ C.1 = V.1 ∧ CntI C ∧ (∀ j, vkd C j = if j = i then 3 else vkd V j) ∧ (vlk C = vlk V ∧ vpar C = vpar V ∧ vent C = vent V ∧ vdp C = vdp V ∧ vtm C = vtm V ∧ vdc C = vdc V) ∧
  (∀ j, j ≠ h → vsz C j = vsz V j ∧ vmn C j = vmn V j ∧ vrn C j = vrn V j ∧ vtw C j = vtw V j ∧ vsg C j = vsg V j ∧ vdb C j = vdb V j ∧ ves C j = ves V j) ∧
  Shp C h ∧ (∀ b, okt nb (vot C b) b) ∧ (∀ j k, k < vmn V j → vbl C j k = vbl V j k) ∧ (∀ j k o, live V j → j ≠ h → k < vmn V j → o < 1024 → vdat C (1024 * vbl V j k + o) = vdat V (1024 * vbl V j k + o)) ∧
  (DS nb C h ∧ ∃ r, ves C h 0 = (1024 * vbl C h 0) :: (1024 * vbl C h 0 + 12) :: r) ∧ (∃ P S, 2 ≤ P.length ∧ fl C h = P ++ e :: S ∧ (fl V h = P ++ S ∨ (fl V h = P ++ e :: S ∧ rd4 (vdat V) e = 0)) ∧ e ∉ P ∧ e ∉ S) ∧
  (∀ o, o < 12 → vdat C (1024 * vbl V h 0 + o) = vdat V (1024 * vbl V h 0 + o)) ∧ (∀ x ∈ fl V h, x ≠ e → (∀ o, o < 4 ∨ (6 ≤ o ∧ o < usd (vdat V) x) → vdat C (x + o) = vdat V (x + o)) ∧ usd (vdat V) x ≤ rd2 (vdat C) (x + 4)) ∧ EntB (vdat C) e i ln n t w ∧ spc n ≤ ln
set_option maxRecDepth 4096 in
theorem tkI_s (V : VV) (i : Nat) : (tkI V i).1 = V.1 := mkI_s _ _ _ _ _
set_option maxRecDepth 4096 in
theorem tkI_a (V : VV) (i : Nat) {k : Nat} (h3 : k ≠ 3) (h13 : k ≠ 13) : (tkI V i).2.1 k = V.2.1 k := mkI_a _ _ _ _ _ h3 h13
set_option maxRecDepth 4096 in
theorem tkI_t (V : VV) (i : Nat) {k : Nat} (h3 : k ≠ 3) : (tkI V i).2.2.1 k = V.2.2.1 k := mkI_m _ _ _ _ _ h3
set_option maxRecDepth 4096 in
theorem tkI_e (V : VV) (i : Nat) : (tkI V i).2.2.2 = V.2.2.2 := mkI_l _ _ _ _ _
set_option maxRecDepth 4096 in
theorem tkI_k (V : VV) (i j : Nat) : vkd (tkI V i) j = if j = i then 3 else vkd V j := mkI_t' _ _ _ _ _ _
set_option maxRecDepth 4096 in
theorem tkI_Stc {nb : Nat} {V : VV} (G : Good nb V) {i : Nat} (hi : vkd V i = 0) : Stc nb (tkI V i) ∧ nfb (tkI V i) = nfb V := by
  have z := G.2.2.2.2.1 i (by unfold live; omega)
  exact Stc_kd (i := i) G.1 (tkI_s V i) (tkI_a V i (by omega) (by omega)) (tkI_a V i (by omega) (by omega)) (tkI_a V i (by omega) (by omega)) (tkI_a V i (by omega) (by omega)) (tkI_a V i (by omega) (by omega)) (tkI_a V i (by omega) (by omega)) (tkI_a V i (by omega) (by omega)) (tkI_t V i (by omega)) (tkI_t V i (by omega)) (tkI_a V i (by omega) (by omega)) (tkI_t V i (by omega)) (fun j hj => by rw [tkI_k, if_neg hj]) z.2.2.1 z.2.2.2.2.2.1 z.2.2.2.2.2.2.1 z.2.2.2.1
set_option maxRecDepth 4096 in
theorem stg_A {nb : Nat} {V : VV} (G : Good nb V) {h y i n t : Nat} {w : Nat → Nat} {l1 l2 : List Nat} (hk : vkd V h = 2) (hi0 : vkd V i = 0) (CI : CntI (tkI V i)) (hfl : fl V h = l1 ++ y :: l2) (hr : rmf (vdat V) n y) (hn1 : 1 ≤ n) (hn : n ≤ 255) (hi : i < 3000) (ht : t < 256) :
    ∃ kb L', kb < vmn V h ∧ y / 1024 = vbl V h kb ∧ y + usd (vdat V) y + spc n ≤ y + rd2 (vdat V) (y + 4) ∧ Loc (vbl V h kb) (Gm y (usd (vdat V) y) (y + usd (vdat V) y) i (rd2 (vdat V) (y + 4) - usd (vdat V) y) n t w) ∧
      Stg nb V (setE (setR (tkI V i) 15 (Gm y (usd (vdat V) y) (y + usd (vdat V) y) i (rd2 (vdat V) (y + 4) - usd (vdat V) y) n t w (vdat V))) h kb L') h (y + usd (vdat V) y) i n t w (rd2 (vdat V) (y + 4) - usd (vdat V) y) := by
  obtain ⟨kb, L', kb1, kb2, A1, A2, A3, A4, A5, A6, A7, A8, A9, A10, A11⟩ := ins_A (w := w) G hk hfl hr hn1 hn hi ht
  refine ⟨kb, L', kb1, kb2, A2, A1, ?_⟩
  obtain ⟨hl, D, D2, hL⟩ := dirF G hk
  have O := G.1.2.2
  have TS := (tkI_Stc G hi0).1
  have hih : h ≠ i := fun q => by rw [q] at hk; omega
  generalize hg : Gm y (usd (vdat V) y) (y + usd (vdat V) y) i (rd2 (vdat V) (y + 4) - usd (vdat V) y) n t w (vdat V) = g at *
  have hdat : vdat (setE (setR (tkI V i) 15 g) h kb L') = g := by show va_up (tkI V i).2.1 15 g 15 = g; rw [va_up_self]
  have hrow : ∀ k, k ≠ 3 → k ≠ 13 → k ≠ 15 → (setE (setR (tkI V i) 15 g) h kb L').2.1 k = V.2.1 k := fun k a b c => by
    show va_up (tkI V i).2.1 15 g k = _; rw [va_up_ne _ _ c]; exact tkI_a V i a b
  have hes : ∀ j k, ves (setE (setR (tkI V i) 15 g) h kb L') j k = if j = h ∧ k = kb then L' else ves V j k := fun j k => by
    by_cases c : j = h ∧ k = kb
    · rw [if_pos c, c.1, c.2]; exact setE_e _ _ _ _
    · rw [if_neg c]; show (setE (setR (tkI V i) 15 g) h kb L').2.2.2 j k = _
      rw [setE_n _ _ _ _ (Decidable.not_and_iff_or_not.mp c)]; show (tkI V i).2.2.2 j k = _; rw [tkI_e]
  have hesh : ves (setE (setR (tkI V i) 15 g) h kb L') h = fun k => if k = kb then L' else ves V h k := by
    funext k; rw [hes]
    by_cases c : k = kb
    · rw [if_pos ⟨rfl, c⟩, if_pos c]
    · rw [if_neg (fun q => c q.2), if_neg c]
  have hbl : vbl (setE (setR (tkI V i) 15 g) h kb L') = vbl V := tkI_t V i (by omega)
  have hmn : vmn (setE (setR (tkI V i) 15 g) h kb L') = vmn V := hrow 6 (by omega) (by omega) (by omega)
  have hsz : vsz (setE (setR (tkI V i) 15 g) h kb L') = vsz V := hrow 4 (by omega) (by omega) (by omega)
  have hh1 := D.1.1
  refine ⟨TS, tkI_s V i, CI, fun j => ?_, ⟨hrow 5 (by omega) (by omega) (by omega), hrow 11 (by omega) (by omega) (by omega), hrow 17 (by omega) (by omega) (by omega), hrow 18 (by omega) (by omega) (by omega), hrow 16 (by omega) (by omega) (by omega), tkI_t V i (by omega)⟩, fun j hj => ?_, ?_, fun b => ?_, fun j k _ => by rw [hbl], fun j k o lj hj hk' ho => ?_, ⟨⟨by rw [hmn]; exact hh1, by rw [hsz, hmn]; exact D.1.2.1, fun k hk' => ?_⟩, ?_⟩, ?_, fun o ho => ?_, fun x hx hne => ?_, ?_, A9⟩
  · show va_up (tkI V i).2.1 15 g 3 j = _; rw [va_up_ne _ _ (by omega)]; exact tkI_k V i j
  · refine ⟨by rw [hsz], by rw [hmn], ?_, ?_, ?_, ?_, funext fun k => by rw [hes, if_neg (fun q => hj q.1)]⟩
    · exact congrFun (hrow 7 (by omega) (by omega) (by omega)) j
    · exact congrFun (hrow 8 (by omega) (by omega) (by omega)) j
    · exact congrFun (hrow 9 (by omega) (by omega) (by omega)) j
    · exact congrFun (hrow 10 (by omega) (by omega) (by omega)) j
  · have := (G.2.2.2.1 h hl).1
    unfold Shp at *
    rw [hmn, show vsg (setE (setR (tkI V i) 15 g) h kb L') = vsg V from hrow 9 (by omega) (by omega) (by omega), show vdb (setE (setR (tkI V i) 15 g) h kb L') = vdb V from hrow 10 (by omega) (by omega) (by omega), show vrn (setE (setR (tkI V i) 15 g) h kb L') = vrn V from hrow 7 (by omega) (by omega) (by omega), show vtw (setE (setR (tkI V i) 15 g) h kb L') = vtw V from hrow 8 (by omega) (by omega) (by omega)]; exact this
  · rw [show vot (setE (setR (tkI V i) 15 g) h kb L') = vot V from hrow 0 (by omega) (by omega) (by omega)]; exact G.2.2.2.2.2.2.1 b
  · rw [hdat, ← hg]
    refine (A1 (vdat V) _).1 ?_
    rw [show (1024 * vbl V j k + o) / 1024 = vbl V j k by omega]
    intro q
    have o1 := O.1 j k lj hk'; have o2 := O.1 h kb hl kb1
    rw [q] at o1; omega
  · rw [hmn] at hk'
    rw [hdat, hbl, hesh]; exact A3 k hk'
  · rw [hesh, hbl]
    obtain ⟨r, hr'⟩ := A4
    exact ⟨r, by show (if 0 = kb then L' else ves V h 0) = _; exact hr'⟩
  · unfold fl
    rw [hesh, hmn]; exact A5
  · rw [hdat]; exact A6 o ho
  · rw [hdat]; exact A7 x hx hne
  · rw [hdat]; exact A8
-- a new block
set_option maxRecDepth 4096 in
theorem stg_B {nb : Nat} {V : VV} (G : Good nb V) {h i n t : Nat} {w : Nat → Nat} (hk : vkd V h = 2) (hi0 : vkd V i = 0) (CI : CntI (tkI V i)) (hf : cost (vmn V h) ≤ nfb V) (hn1 : 1 ≤ n) (hn : n ≤ 255) (hi : i < 3000) (ht : t < 256) :
    Stg nb V (setE (setR (setA (addB (tkI V i) h) 4 h (1024 * (vmn V h + 1))) 15 (entW (vdat (addB (tkI V i) h)) (1024 * vbl (addB (tkI V i) h) h (vmn V h)) i 1024 n t w)) h (vmn V h) [1024 * vbl (addB (tkI V i) h) h (vmn V h)]) h (1024 * vbl (addB (tkI V i) h) h (vmn V h)) i n t w 1024 ∧
    Loc (vbl (addB (tkI V i) h) h (vmn V h)) (fun f => entW f (1024 * vbl (addB (tkI V i) h) h (vmn V h)) i 1024 n t w) ∧ vbl (addB (tkI V i) h) h (vmn V h) < nb ∧ vot (addB (tkI V i) h) (vbl (addB (tkI V i) h) h (vmn V h)) = 3 ∧ nfb (addB (tkI V i) h) + cost (vmn V h) = nfb V := by
  obtain ⟨hl, D, D2, hL⟩ := dirF G hk
  have O := G.1.2.2
  obtain ⟨TS, Tn⟩ := tkI_Stc G hi0
  have hih : h ≠ i := fun q => by rw [q] at hk; omega
  have hin := G.ino hl
  have hlT : live (tkI V i) h := by unfold live; rw [tkI_k, if_neg hih]; exact .inr hk
  have eT : ∀ k, k ≠ 3 → k ≠ 13 → (tkI V i).2.1 k = V.2.1 k := fun k a b => tkI_a V i a b
  have mT : vmn (tkI V i) h = vmn V h := congrFun (eT 6 (by omega) (by omega)) h
  have PT : Shp (tkI V i) h := by
    have := (G.2.2.2.1 h hl).1
    unfold Shp at *
    rw [show vmn (tkI V i) = vmn V from eT 6 (by omega) (by omega), show vsg (tkI V i) = vsg V from eT 9 (by omega) (by omega), show vdb (tkI V i) = vdb V from eT 10 (by omega) (by omega), show vrn (tkI V i) = vrn V from eT 7 (by omega) (by omega), show vtw (tkI V i) = vtw V from eT 8 (by omega) (by omega)]; exact this
  have eQ : vQ (tkI V i) = vQ V := congrFun (tkI_s V i) 1
  have eG : vG (tkI V i) = vG V := congrFun (tkI_s V i) 2
  obtain ⟨A1, P1, m1, f1, E1, b1, _⟩ := addB_S TS hin.1 (by rw [eQ, eG]; exact hin.2.1) hlT PT (by rw [mT, Tn]; exact hf)
  have hraw := addB_raw (nb := nb) (V := tkI V i) (i := h) (fun c => by rw [show vot (tkI V i) = vot V from eT 0 (by omega) (by omega)]; exact G.2.2.2.2.2.2.1 c)
  rw [mT] at m1 f1 b1
  rw [Tn] at f1
  obtain ⟨x1, x2, x3, x4, x5, x6, x7, x8, x9, x10, x11, x12, x13, x14, x15, x16, x17, x18, x19⟩ := E1
  generalize hC : addB (tkI V i) h = C at *
  have hlC : live C h := by unfold live; rw [x2]; exact hlT
  obtain ⟨o0, o1, o2, o3, o4⟩ := A1.2.2.1 h (vmn V h) hlC (by omega)
  have y19 := x19 (vmn V h) (by rw [mT]; exact Nat.le_refl _) (by omega)
  generalize hb : vbl C h (vmn V h) = b at *
  have hsn := spc_ge n
  have hLoc : Loc b (fun f => entW f (1024 * b) i 1024 n t w) := Loc_ent (by omega) (by omega)
  have EB := EntB_ent (vdat C) (e := 1024 * b) (i := i) (ln := 1024) (n := n) (t := t) w (by omega) (by omega) (by omega) ht
  have votT : vot (tkI V i) = vot V := eT 0 (by omega) (by omega)
  have datT : vdat (tkI V i) = vdat V := eT 15 (by omega) (by omega)
  have blT : vbl (tkI V i) = vbl V := tkI_t V i (by omega)
  -- bytes of used blocks
  have hdv : ∀ x, vot V (x / 1024) ≠ 0 → entW (vdat C) (1024 * b) i 1024 n t w x = vdat V x := fun x hx => by
    rw [ent_out]
    · rw [x18 x (by rw [votT]; exact hx), datT]
    · rw [votT] at y19
      have : x / 1024 ≠ b := fun q => hx (by rw [q]; exact y19.1)
      omega
  have hmem : ∀ x ∈ fl V h, ∀ o, x % 1024 + o < 1024 → entW (vdat C) (1024 * b) i 1024 n t w (x + o) = vdat V (x + o) := fun x hx o ho => by
    obtain ⟨k, k1, k2, k3, k4, k5⟩ := fl_adr O hl D.1 hx
    refine hdv _ ?_
    rw [show (x + o) / 1024 = x / 1024 by omega, k2.2.1]; omega
  have hfl1 : 1 ≤ vmn V h := D.1.1
  refine ⟨?_, hLoc, o1, o2, f1⟩
  generalize hg : entW (vdat C) (1024 * b) i 1024 n t w = g at *
  have hdat : vdat (setE (setR (setA C 4 h (1024 * (vmn V h + 1))) 15 g) h (vmn V h) [1024 * b]) = g := by show va_up (setA C 4 h (1024 * (vmn V h + 1))).2.1 15 g 15 = g; rw [va_up_self]
  have hsz : ∀ j, vsz (setE (setR (setA C 4 h (1024 * (vmn V h + 1))) 15 g) h (vmn V h) [1024 * b]) j = if j = h then 1024 * (vmn V h + 1) else vsz V j := fun j => by
    show (setA C 4 h (1024 * (vmn V h + 1))).2.1 4 j = _
    by_cases c : j = h
    · rw [if_pos c, c, setA_e]
    · rw [if_neg c, setA_n _ _ _ c]; show vsz C j = _; rw [x3]; exact congrFun (eT 4 (by omega) (by omega)) j
  have hes : ∀ j k, ves (setE (setR (setA C 4 h (1024 * (vmn V h + 1))) 15 g) h (vmn V h) [1024 * b]) j k = if j = h ∧ k = vmn V h then [1024 * b] else ves V j k := fun j k => by
    by_cases c : j = h ∧ k = vmn V h
    · rw [if_pos c, c.1, c.2]; exact setE_e _ _ _ _
    · rw [if_neg c]; show (setE (setR (setA C 4 h (1024 * (vmn V h + 1))) 15 g) h (vmn V h) [1024 * b]).2.2.2 j k = _
      rw [setE_n _ _ _ _ (Decidable.not_and_iff_or_not.mp c)]; show C.2.2.2 j k = _; rw [show C.2.2.2 = (tkI V i).2.2.2 from x12, tkI_e]
  have hfl : fl (setE (setR (setA C 4 h (1024 * (vmn V h + 1))) 15 g) h (vmn V h) [1024 * b]) h = fl V h ++ [1024 * b] := by
    show flt (ves (setE (setR (setA C 4 h (1024 * (vmn V h + 1))) 15 g) h (vmn V h) [1024 * b]) h) 0 (vmn C h) = _
    rw [m1, flt_succ, hes, if_pos ⟨rfl, rfl⟩]
    congr 1
    show _ = flt (ves V h) 0 (vmn V h)
    have : ∀ (m x : Nat), x + m ≤ vmn V h → flt (ves (setE (setR (setA C 4 h (1024 * (vmn V h + 1))) 15 g) h (vmn V h) [1024 * b]) h) x m = flt (ves V h) x m := by
      intro m
      induction m with
      | zero => intro x _; rfl
      | succ m ih => intro x hx; rw [flt, flt, hes, if_neg (by omega), ih (x + 1) (by omega)]
    exact this (vmn V h) 0 (by omega)
  have hnf : 1024 * b ∉ fl V h := fun q => by
    obtain ⟨k, k1, k2, k3, k4, k5⟩ := fl_adr O hl D.1 q
    rw [votT] at y19
    rw [show 1024 * b / 1024 = b by omega] at k3
    have h3 := k2.2.1
    rw [show 1024 * b / 1024 = b by omega] at h3
    omega
  refine ⟨A1, x1.trans (tkI_s V i), ?_, fun j => ?_, ⟨x4.trans (eT 5 (by omega) (by omega)), x5.trans (eT 11 (by omega) (by omega)), x8.trans (eT 17 (by omega) (by omega)), x9.trans (eT 18 (by omega) (by omega)), x7.trans (eT 16 (by omega) (by omega)), x11.trans (tkI_t V i (by omega))⟩, fun j hj => ?_, P1, hraw, fun j k hk' => ?_, fun j k o lj hj hk' ho => ?_, ⟨⟨?_, ?_, fun k hk' => ?_⟩, ?_⟩, ⟨fl V h, [], fl_2 D2, hfl, .inl (by simp), hnf, by simp⟩, fun o ho => ?_, fun x hx hne => ?_, ?_, by omega⟩
  · exact CntI_of (V := tkI V i) x1 x6 x10 (fun j => by show vkd C j = 0 ↔ _; rw [x2]) CI
  · show vkd C j = _; rw [x2]; exact tkI_k V i j
  · obtain ⟨y1, y2, y3, y4, y5⟩ := x13 j hj
    refine ⟨by rw [hsz, if_neg hj], y1.trans (congrFun (eT 6 (by omega) (by omega)) j), y2.trans (congrFun (eT 7 (by omega) (by omega)) j), y3.trans (congrFun (eT 8 (by omega) (by omega)) j), y4.trans (congrFun (eT 9 (by omega) (by omega)) j), y5.trans (congrFun (eT 10 (by omega) (by omega)) j), funext fun k => by rw [hes, if_neg (fun q => hj q.1)]⟩
  · show vbl C j k = _
    rw [x15 j k (by rw [show vmn (tkI V i) = vmn V from eT 6 (by omega) (by omega)]; exact hk'), blT]
  · rw [hdat]; refine hdv _ ?_
    have oj := O.1 j k lj hk'
    rw [show (1024 * vbl V j k + o) / 1024 = vbl V j k by omega]; omega
  · show 1 ≤ vmn C h; omega
  · rw [hsz, if_pos rfl]; show _ = 1024 * vmn C h; rw [m1]
  · have hk'' : k < vmn V h + 1 := by have : k < vmn C h := hk'; omega
    rw [hdat, hes]
    show Seg g _ (1024 * vbl C h k) (1024 * vbl C h k + 1024)
    by_cases c : k = vmn V h
    · rw [if_pos ⟨rfl, c⟩, c, hb]
      have := EB.2.1
      exact ⟨rfl, by rw [this]; omega, by rw [this], by rw [this]; omega, by rw [this]; rfl⟩
    · rw [if_neg (fun q => c q.2)]
      have hkv : k < vmn V h := by omega
      rw [show vbl C h k = vbl V h k by rw [x15 h k (by rw [mT]; exact hkv), blT]]
      refine Seg_fr _ _ _ (fun x hx1 hx2 => ?_) (D.1.2.2 k hkv)
      refine hdv x ?_
      have oj := O.1 h k hl hkv
      rw [show x / 1024 = vbl V h k by omega]; omega
  · obtain ⟨r, hr'⟩ := D.2.1
    rw [hes, if_neg (by omega)]
    refine ⟨r, ?_⟩
    show _ = (1024 * vbl C h 0) :: (1024 * vbl C h 0 + 12) :: r
    rw [show vbl C h 0 = vbl V h 0 by rw [x15 h 0 (by rw [mT]; omega), blT]]; exact hr'
  · rw [hdat]
    obtain ⟨r, hr1, _⟩ := fl_drop D
    exact hmem (1024 * vbl V h 0) (by rw [hr1]; simp) o (by omega)
  · rw [hdat]
    obtain ⟨B1, B2, B3, B4⟩ := hL x hx
    have hux : usd (vdat V) x ≤ rd2 (vdat V) (x + 4) := by
      by_cases q : rd4 (vdat V) x = 0
      · unfold usd; rw [if_pos q]; omega
      · exact B4 q
    refine ⟨fun o ho => hmem x hx o (by omega), ?_⟩
    have er : rd2 g (x + 4) = rd2 (vdat V) (x + 4) := rd2_eq (fun o ho => by rw [Nat.add_assoc]; exact hmem x hx (4 + o) (by omega)); rw [er]; exact hux
  · rw [hdat]; exact EB
