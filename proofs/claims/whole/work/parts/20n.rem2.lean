set_option maxRecDepth 4096 in
theorem setE_e (V : VV) (h k : Nat) (l : List Nat) : (setE V h k l).2.2.2 h k = l := by
  show va_up V.2.2.2 h (va_up (V.2.2.2 h) k l) h k = l; rw [va_up_self, va_up_self]
set_option maxRecDepth 4096 in
theorem setE_n (V : VV) (h k : Nat) (l : List Nat) {j m : Nat} (hn : j ≠ h ∨ m ≠ k) : (setE V h k l).2.2.2 j m = V.2.2.2 j m := by
  show va_up V.2.2.2 h (va_up (V.2.2.2 h) k l) j m = _
  by_cases c : j = h
  · subst c; rw [va_up_self, va_up_ne _ _ (by omega)]
  · rw [va_up_ne _ _ c]
set_option maxRecDepth 4096 in
theorem DX_E {nb : Nat} {V : VV} {d : Nat → Nat} (h k : Nat) (l : List Nat) (D : DX nb V d) : DX nb (setE V h k l) d := D
set_option maxRecDepth 4096 in
theorem RM_E {nb : Nat} {V : VV} {τ : XS} {f : Nat → Nat} (h k : Nat) (l : List Nat) (R : RM nb V τ f) : RM nb (setE V h k l) τ f := R
def Gc (a : Nat) (z : Option Nat) (v : Nat) (f : Nat → Nat) : Nat → Nat := match z with
  | none => wrN f a 4 0
  | some z => wrN f (z + 4) 2 v
def gcv (f : Nat → Nat) (a : Nat) : Option Nat → Nat
  | none => 0
  | some y => rd2 f (y + 4) + rd2 f (a + 4)
set_option maxRecDepth 4096 in
theorem Gc_eq (a : Nat) (z : Option Nat) (f : Nat → Nat) : Gcut a z f = Gc a z (gcv f a z) f := by cases z <;> rfl
set_option maxRecDepth 4096 in
theorem rem_core {nb : Nat} (h5 : nb ≤ 512) {V V0 : VV} (G : Good nb V) {h a i q k : Nat} {be : Int32} (hk : vkd V h = 2) (hq : (fl V h)[q]? = some a) (q2 : 2 ≤ q) (hm : (itm (vdat V) (fl V h))[k]? = some a) (hi : rd4 (vdat V) a = i) (hemp : vkd V i = 2 → itm (vdat V) (fl V i) = []) (hbe : BeOK (fl V h) a be)
    (v1 : V0.1 = V.1) (v2 : ∀ k, k ≠ 5 → V0.2.1 k = V.2.1 k) (v3 : ∀ j, j ≠ h → vlk V0 j = vlk V j) (v4 : vlk V0 h + (if vkd V i = 2 then 1 else 0) = vlk V h) (v5 : ∀ k, k ≠ 4 → V0.2.2.1 k = V.2.2.1 k) (v6 : ∀ y x, y < vQ V → x < vQ V → vdc V0 y x + (if vkd V i = 2 ∧ x = (i - 1) / vG V then 1 else 0) = vdc V y x) (v7 : V0.2.2.2 = V.2.2.2)
    {ρ : XS} (S : Sc V ρ) (Rd : RdL (fl V h) ρ) {d0 : Nat → Nat} (D0 : DX nb V0 d0) {τ : XS} {f : Nat → Nat} (R : RM nb V0 τ f) :
    ∃ V5 d' τ' f', Good nb V5 ∧ V5.1 = V.1 ∧ vkd V5 h = 2 ∧ DX nb V5 d' ∧ fXX0_remove_0_91 nb (nI q) (nI i) (XD ρ d0) = some (0, XD ρ d') ∧ RM nb V5 τ' f' ∧ τ'.1 = (stS τ 3 (nI 0)).1 ∧ (∀ k, (k = 1 ∨ k = 2 ∨ k = 3) → τ'.2.1 k = τ.2.1 k) ∧ fMX12_remove_0_84 nb (nI a) be (nI i) (XD τ f) = some (XD τ' f') := by
  obtain ⟨hlh, Dh, D2h, hLh⟩ := dirF G hk
  have ha := List.mem_of_getElem? hm
  have Ea := dirE Dh ha
  rw [Ent, hi] at Ea
  have li : live V i := Ea.2.2.1
  obtain ⟨in1, in2, in3⟩ := G.ino li
  have hgl := G_lt G.1.1
  have O := G.1.2.2
  have haf := (itm_mem ha).1
  have nd := fl_nd O hlh Dh.1
  obtain ⟨ka, ka1, ka2, ka3, ka4, ka5⟩ := fl_adr O hlh Dh.1 haf
  have hab := Adr_lt h5 ka2
  obtain ⟨kb, kb1, kb2, kb3⟩ := rem_blk O hlh Dh haf
  have hkab : a / 1024 = vbl V h kb := (DS_Adr O hlh Dh.1 kb1 kb2).2.1
  have ob := O.1 h kb hlh kb1
  have hih : i ≠ h := fun e => by
    have := hemp (by rw [e]; exact hk)
    rw [e] at this; rw [this] at ha; cases ha
  -- what the entry before is
  obtain ⟨z, L', hz, hzb, hNL, hdrop, hbez⟩ : ∃ (z : Option Nat) (L' : List Nat), ((z = none ∧ a % 1024 = 0) ∨ ∃ y, z = some y ∧ a % 1024 ≠ 0) ∧ (∀ y, z = some y → y / 1024 = a / 1024 ∧ y % 1024 + 12 ≤ 1024) ∧ NewL (ves V h kb) L' a z ∧
      (∀ d, DX nb V0 d → fXX5_drop_7 nb (nI q) (XD ρ d) = some (XD ρ (Gc a z (gcv (vdat V) a z) d))) ∧ ((z = none ∧ be = -nI 1) ∨ ∃ y, z = some y ∧ be = nI y ∧ y ∈ fl V h) := by
    rcases hbe with ⟨b1, b2⟩ | ⟨b1, l1, y, l2, b2, b3⟩
    · exact ⟨none, ves V h kb, .inl ⟨rfl, b1⟩, fun y e => (by cases e), rfl, fun d _ => drop0_X d h5 Rd hq (by have := ka2.1; omega) b1, .inl ⟨rfl, b2⟩⟩
    · rcases kb3 with kb3 | ⟨m1, y', m2, kb3⟩
      · exact absurd kb3 b1
      · obtain ⟨p, s, f1, _⟩ := flt_set (es := ves V h) (es' := ves V h) (kb := kb) (fun _ _ => rfl) (vmn V h) 0 (by omega) (by omega)
        have efl : fl V h = (p ++ (m1 ++ [y'])) ++ a :: (m2 ++ s) := by show flt (ves V h) 0 (vmn V h) = _; rw [f1, kb3]; simp
        have efl2 : fl V h = (l1 ++ [y]) ++ a :: l2 := by rw [b2]; simp
        have nd' := nd
        rw [efl2] at nd'
        have sp := nd_split (l1 ++ [y]) (p ++ (m1 ++ [y'])) (by rw [← efl2, ← efl]) nd'
        have hy : y = y' := by
          have := sp.1
          rw [← List.append_assoc] at this
          have h2 := congrArg List.getLast? this
          simp at h2; exact h2
        subst hy
        have hyf : y ∈ fl V h := by rw [b2]; simp
        have hyb : y ∈ ves V h kb := by rw [kb3]; simp
        have ya := DS_Adr O hlh Dh.1 kb1 hyb
        have hq' : q = l1.length + 1 := by
          have : (fl V h)[l1.length + 1]? = some a := by rw [b2]; simp
          exact (List.getElem?_inj (get_lt hq) nd).mp (by rw [hq, this])
        have hqy : (fl V h)[l1.length]? = some y := by rw [b2]; simp
        refine ⟨some y, m1 ++ y :: m2, .inr ⟨y, rfl, b1⟩, fun w e => ?_, ⟨m1, m2, kb3, rfl⟩, fun d Dd => ?_, .inr ⟨y, rfl, b3, hyf⟩⟩
        · injection e with e; rw [← e, ya.2.1, hkab]; exact ⟨rfl, ya.1.2.2.2⟩
        · have hL0 : LO nb V0 (fl V h) := fun e he => by
            have := hLh e he
            unfold Adr at *
            rw [show vdat V0 = vdat V from v2 15 (by omega), show vot V0 = vot V from v2 0 (by omega)]; exact this
          have := drop1_X h5 Dd Rd hL0 (p := l1.length) (a := a) (b := y) (by rw [← hq']; exact hq) hqy b1
          rw [show vdat V0 = vdat V from v2 15 (by omega), ← hq'] at this
          exact this
  generalize hv : gcv (vdat V) a z = v at *
  have hGv : Gcut a z (vdat V) = Gc a z v (vdat V) := by rw [Gc_eq, hv]
  have hLoc : Loc (vbl V h kb) (Gc a z v) := by
    have h12 := ka2.2.2.2
    cases z with
    | none => exact Loc_wrN (b := vbl V h kb) (a := a) (n := 4) 0 (by omega) (by omega)
    | some y =>
      have := hzb y rfl
      exact Loc_wrN (b := vbl V h kb) (a := y + 4) (n := 2) v (by omega) (by omega)
  have d15 : vdat V0 = vdat V := v2 15 (by omega)
  have dr := hdrop d0 D0
  have D1 := DX_E h kb L' (DX_loc D0 (b := vbl V h kb) ob.2.1 (by rw [show vot V0 = vot V from v2 0 (by omega)]; exact ob.2.2.1) hLoc)
  have R1 := RM_E h kb L' (RM_loc R hLoc)
  rw [d15] at D1 R1
  have A1 : Stc nb (setE (setR V0 15 (Gc a z v (vdat V))) h kb L') := Stc_eq G.1 v1 (v2 0 (by omega)) (v2 1 (by omega)) (v2 2 (by omega)) (v2 3 (by omega)) (v2 6 (by omega)) (v2 7 (by omega)) (v2 9 (by omega)) (v2 10 (by omega)) (v5 0 (by omega)) (v5 1 (by omega)) (v2 12 (by omega)) (v5 2 (by omega))
  generalize hV1 : setE (setR V0 15 (Gc a z v (vdat V))) h kb L' = V1 at *
  have w1 : V1.1 = V.1 := by rw [← hV1]; exact v1
  have w2 : ∀ k, k ≠ 5 → k ≠ 15 → V1.2.1 k = V.2.1 k := fun k k1 k2 => by rw [← hV1]; show va_up V0.2.1 15 _ k = _; rw [va_up_ne _ _ k2]; exact v2 k k1
  have w15 : vdat V1 = Gcut a z (vdat V) := by rw [← hV1, hGv]; show va_up V0.2.1 15 (Gc a z v (vdat V)) 15 = _; rw [va_up_self]
  have w5 : vlk V1 = vlk V0 := by rw [← hV1]; rfl
  have wt : ∀ k, V1.2.2.1 k = V0.2.2.1 k := fun k => by rw [← hV1]; rfl
  have we : ∀ j k, V1.2.2.2 j k = if j = h ∧ k = kb then L' else V.2.2.2 j k := fun j k => by
    rw [← hV1]
    by_cases c : j = h ∧ k = kb
    · rw [if_pos c, c.1, c.2]; exact setE_e _ _ _ _
    · rw [if_neg c, setE_n _ _ _ _ (Decidable.not_and_iff_or_not.mp c)]; show V0.2.2.2 j k = _; rw [v7]
  have S1 : Sc V1 ρ := Sc_of w1 S
  have eQ1 : vQ V1 = vQ V := congrFun w1 1
  have eG1 : vG V1 = vG V := congrFun w1 2
  have li1 : live V1 i := by unfold live; rw [show vkd V1 = vkd V from w2 3 (by omega) (by omega)]; exact li
  have P1 : Shp V1 i := by
    have := (G.2.2.2.1 i li).1
    unfold Shp at *
    rw [show vsg V1 = vsg V from w2 9 (by omega) (by omega), show vmn V1 = vmn V from w2 6 (by omega) (by omega), show vdb V1 = vdb V from w2 10 (by omega) (by omega), show vrn V1 = vrn V from w2 7 (by omega) (by omega), show vtw V1 = vtw V from w2 8 (by omega) (by omega)]; exact this
  have z1 : vsz V1 i = vsz V i := congrFun (w2 4 (by omega) (by omega)) i
  have m1 : vmn V1 i = vmn V i := congrFun (w2 6 (by omega) (by omega)) i
  have hsz := G.sz i
  have p0 : prt 0 = 0 := rfl
  obtain ⟨W, d2, T, D2, shX⟩ := shorten_X A1 in1 (by rw [eQ1, eG1]; exact in2) li1 P1 (by rw [z1, m1]; exact (G.2.2.2.1 i li).2) (s := 0) (by rw [p0]; omega) (by omega) (by omega) ρ _ S1 D1
  rw [p0] at T
  have R2 := RM_keep A1 R1 in3 li1 P1 (n := 0) (by omega) T
  have hfs : τ.2.1 10 i = nI (fst0 V1 i) := (R1.2.2.1 i in3).2.2.2.2.2.2.1
  have KM := keepM_kp V1 hfs 0
  obtain ⟨AW, PW, ⟨x1, x2, x3, x4, x5, x6, x7, x8, x9, x10, x11, x12, ⟨x13, x14, x15, x16, x17⟩, x18, x19, x20, x21, x22, x23⟩, _⟩ := T
  rw [if_pos (by omega)] at x20 x21 x22
  have SW : Sc W ρ := Sc_of x1 S1
  have eQW : vQ W = vQ V := (congrFun x1 1).trans eQ1
  have eGW : vG W = vG V := (congrFun x1 2).trans eG1
  have in2W : i ≤ vQ W * vG W := by rw [eQW, eGW]; exact in2
  have kW : vkd W = vkd V := x2.trans (w2 3 (by omega) (by omega))
  -- erase, and the fields of what is dead
  obtain ⟨d3, D3, er⟩ := erase_X (V := setA W 4 i 0) AW.1 SW D2 in1 in2W (by show vkd W i ≠ 0; rw [kW]; unfold live at li; omega)
  have dead : ∀ U : VV, vkd U i = 3 → ¬ live U i := fun U e => by unfold live; omega
  have e33 : (setA (setA W 4 i 0) 3 i 3).2.1 3 i = 3 := setA_e _ _ _ _
  have D4 := DX_deadA D3 (i := i) (v := 0) (dead _ e33)
  have D5 := DX_deadT D4 (i := i) (w := 0) (v := 0) (by omega) (dead _ e33)
  have D6 := DX_deadT D5 (i := i) (w := 1) (v := 0) (by omega) (dead _ e33)
  have D7 := DX_deadT D6 (i := i) (w := 2) (v := 0) (by omega) (dead _ e33)
  generalize hX : setA (setA (setA (setA (setA (setA W 4 i 0) 3 i 3) 5 i 0) 16 (3 * i + 0) 0) 16 (3 * i + 1) 0) 16 (3 * i + 2) 0 = X at *
  have X1 : X.1 = W.1 := by rw [← hX]; rfl
  have Xr : ∀ k, k ≠ 3 → k ≠ 4 → k ≠ 5 → k ≠ 16 → X.2.1 k = W.2.1 k := fun k k3 k4 k5 k16 => by
    rw [← hX]
    rw [setA_o _ _ _ k16, setA_o _ _ _ k16, setA_o _ _ _ k16, setA_o _ _ _ k5, setA_o _ _ _ k3, setA_o _ _ _ k4]
  have X3 : ∀ j, vkd X j = if j = i then 3 else vkd V j := fun j => by
    rw [← hX]; show (setA (setA W 4 i 0) 3 i 3).2.1 3 j = _
    by_cases c : j = i
    · rw [if_pos c, c, setA_e]
    · rw [if_neg c, setA_n _ _ _ c]; show vkd W j = _; rw [kW]
  have X4 : ∀ j, vsz X j = if j = i then 0 else vsz W j := fun j => by
    rw [← hX]; show (setA W 4 i 0).2.1 4 j = _
    by_cases c : j = i
    · rw [if_pos c, c, setA_e]
    · rw [if_neg c, setA_n _ _ _ c]
  have X5 : ∀ j, vlk X j = if j = i then 0 else vlk W j := fun j => by
    rw [← hX]; show (setA (setA (setA W 4 i 0) 3 i 3) 5 i 0).2.1 5 j = _
    by_cases c : j = i
    · rw [if_pos c, c, setA_e]
    · rw [if_neg c, setA_n _ _ _ c]; rfl
  have X16 : ∀ x, vtm X x = if x = 3 * i ∨ x = 3 * i + 1 ∨ x = 3 * i + 2 then 0 else vtm W x := fun x => by
    rw [← hX]
    show (setA (setA (setA (setA (setA (setA W 4 i 0) 3 i 3) 5 i 0) 16 (3 * i + 0) 0) 16 (3 * i + 1) 0) 16 (3 * i + 2) 0).2.1 16 x = _
    by_cases c2 : x = 3 * i + 2
    · rw [c2, setA_e, if_pos (by omega)]
    · rw [setA_n _ _ _ c2]
      by_cases c1 : x = 3 * i + 1
      · rw [c1, setA_e, if_pos (by omega)]
      · rw [setA_n _ _ _ c1]
        by_cases c0 : x = 3 * i + 0
        · rw [c0, setA_e, if_pos (by omega)]
        · rw [setA_n _ _ _ c0, if_neg (by omega)]; rfl
  have Xt : X.2.2 = W.2.2 := by rw [← hX]; rfl
  have BX : Bas nb X := Bas_of X1 (Xr 0 (by omega) (by omega) (by omega) (by omega)) AW.1
  have SX : Sc X ρ := Sc_of X1 SW
  have eQX : vQ X = vQ V := (congrFun X1 1).trans eQW
  have eGX : vG X = vG V := (congrFun X1 2).trans eGW
  have fiX : vFI X = vFI V := (Xr 13 (by omega) (by omega) (by omega) (by omega)).trans (x6.trans (w2 13 (by omega) (by omega)))
  have ftX : vfi X = vfi V := by show X.2.2.1 3 = _; rw [Xt]; exact x10.trans ((wt 3).trans (v5 3 (by omega)))
  have CX : CntI X := CntI_of (X1.trans (x1.trans w1)) fiX ftX (fun j => by
    rw [X3]; by_cases c : j = i
    · rw [if_pos c, c]; unfold live at li; omega
    · rw [if_neg c]) G.2.1
  obtain ⟨d8, D8, C8, n8, gb⟩ := give5_C BX SX D7 CX in1 (by rw [eQX, eGX]; exact in2) (by rw [X3, if_pos rfl])
  -- what came of it
  have V5s : (gvI X i).1 = V.1 := (mkI_s _ _ _ _ _).trans (X1.trans (x1.trans w1))
  have V5a : ∀ k, k ≠ 3 → k ≠ 13 → (gvI X i).2.1 k = X.2.1 k := fun k k3 k13 => mkI_a _ _ _ _ _ k3 k13
  have V5k : ∀ j, vkd (gvI X i) j = if j = i then 0 else vkd V j := fun j => by
    rw [show vkd (gvI X i) j = if j = i then 0 else vkd X j from mkI_t' _ _ _ _ _ _]
    by_cases c : j = i
    · rw [if_pos c, if_pos c]
    · rw [if_neg c, if_neg c, X3, if_neg c]
  have V5t : ∀ k, k ≠ 3 → (gvI X i).2.2.1 k = X.2.2.1 k := fun k k3 => mkI_m _ _ _ _ _ k3
  have V5e : (gvI X i).2.2.2 = X.2.2.2 := mkI_l _ _ _ _ _
  have rows : ∀ k, k ≠ 3 → k ≠ 4 → k ≠ 5 → k ≠ 13 → k ≠ 16 → (gvI X i).2.1 k = W.2.1 k := fun k a1 a2 a3 a4 a5 => (V5a k a1 a4).trans (Xr k a1 a2 a3 a5)
  have tabs : ∀ k, k ≠ 3 → (gvI X i).2.2.1 k = W.2.2.1 k := fun k k3 => by rw [V5t k k3, Xt]
  have es5 : ∀ j k, ves (gvI X i) j k = if j = h ∧ k = kb then L' else ves V j k := fun j k => by
    show (gvI X i).2.2.2 j k = _; rw [V5e, Xt, show W.2.2.2 = V1.2.2.2 from x12]; exact we j k
  have hli0 := G.2.2.2.2.1
  have A5 : Stc nb (gvI X i) := (Stc_kd (W := gvI X i) (i := i) AW (V5s.trans (x1.trans w1).symm) (rows 0 (by omega) (by omega) (by omega) (by omega) (by omega)) (rows 1 (by omega) (by omega) (by omega) (by omega) (by omega)) (rows 2 (by omega) (by omega) (by omega) (by omega) (by omega)) (rows 6 (by omega) (by omega) (by omega) (by omega) (by omega)) (rows 7 (by omega) (by omega) (by omega) (by omega) (by omega)) (rows 9 (by omega) (by omega) (by omega) (by omega) (by omega)) (rows 10 (by omega) (by omega) (by omega) (by omega) (by omega)) (tabs 0 (by omega)) (tabs 1 (by omega)) (rows 12 (by omega) (by omega) (by omega) (by omega) (by omega)) (tabs 2 (by omega)) (fun j hj => by rw [V5k, if_neg hj, kW]) x19 x20 x21 x22).1
  have lk5 : ∀ j, vlk (gvI X i) j = if j = i then 0 else vlk V0 j := fun j => by
    rw [show vlk (gvI X i) = vlk X from V5a 5 (by omega) (by omega), X5]
    by_cases c : j = i
    · rw [if_pos c, if_pos c]
    · rw [if_neg c, if_neg c, x4, w5]
  have tm5 : ∀ x, vtm (gvI X i) x = if x = 3 * i ∨ x = 3 * i + 1 ∨ x = 3 * i + 2 then 0 else vtm V x := fun x => by
    rw [show vtm (gvI X i) = vtm X from V5a 16 (by omega) (by omega), X16, x7, show vtm V1 = vtm V from w2 16 (by omega) (by omega)]
  have sz5 : ∀ j, vsz (gvI X i) j = if j = i then 0 else vsz V j := fun j => by
    rw [show vsz (gvI X i) = vsz X from V5a 4 (by omega) (by omega), X4, x3, show vsz V1 = vsz V from w2 4 (by omega) (by omega)]
  have tw0 : vtw W i = 0 := by rw [PW.2.2.2, x19]; rfl
  have G5 : Good nb (gvI X i) := by
    refine rem_Good (W := gvI X i) G hk ha hi hemp kb1 hz hzb kb2 (by rw [es5, if_pos ⟨rfl, rfl⟩]; exact hNL) (fun j k hjk => by rw [es5, if_neg (by omega)]) A5 C8 V5s V5k (by rw [lk5, if_neg (fun e => hih e.symm)]; exact v4) (fun j j1 j2 => by rw [lk5, if_neg j2]; exact v3 j j1) (fun j hj => ?_) ⟨?_, ?_, ?_, ?_, ?_, ?_, ?_, ?_, ?_, ?_⟩ (fun x => ?_) ?_ ?_ ?_ ?_ ?_ (fun b => ?_) (fun y x hy hx => ?_)
    · obtain ⟨y1, y2, y3, y4, y5⟩ := x18 j hj
      refine ⟨by rw [sz5, if_neg hj], ?_, ?_, ?_, ?_, ?_, by rw [tm5, if_neg (by omega)], by rw [tm5, if_neg (by omega)], by rw [tm5, if_neg (by omega)]⟩
      · exact (congrFun (rows 6 (by omega) (by omega) (by omega) (by omega) (by omega)) j).trans (y1.trans (congrFun (w2 6 (by omega) (by omega)) j))
      · exact (congrFun (rows 7 (by omega) (by omega) (by omega) (by omega) (by omega)) j).trans (y2.trans (congrFun (w2 7 (by omega) (by omega)) j))
      · exact (congrFun (rows 8 (by omega) (by omega) (by omega) (by omega) (by omega)) j).trans (y3.trans (congrFun (w2 8 (by omega) (by omega)) j))
      · exact (congrFun (rows 9 (by omega) (by omega) (by omega) (by omega) (by omega)) j).trans (y4.trans (congrFun (w2 9 (by omega) (by omega)) j))
      · exact (congrFun (rows 10 (by omega) (by omega) (by omega) (by omega) (by omega)) j).trans (y5.trans (congrFun (w2 10 (by omega) (by omega)) j))
    · rw [sz5, if_pos rfl]
    · rw [lk5, if_pos rfl]
    · exact (congrFun (rows 6 (by omega) (by omega) (by omega) (by omega) (by omega)) i).trans x19
    · exact (congrFun (rows 7 (by omega) (by omega) (by omega) (by omega) (by omega)) i).trans x22
    · exact (congrFun (rows 8 (by omega) (by omega) (by omega) (by omega) (by omega)) i).trans tw0
    · exact (congrFun (rows 9 (by omega) (by omega) (by omega) (by omega) (by omega)) i).trans x20
    · exact (congrFun (rows 10 (by omega) (by omega) (by omega) (by omega) (by omega)) i).trans x21
    · rw [tm5, if_pos (by omega)]
    · rw [tm5, if_pos (by omega)]
    · rw [tm5, if_pos (by omega)]
    · rw [tm5]; split <;> omega
    · exact (rows 11 (by omega) (by omega) (by omega) (by omega) (by omega)).trans (x5.trans (w2 11 (by omega) (by omega)))
    · exact (rows 17 (by omega) (by omega) (by omega) (by omega) (by omega)).trans (x8.trans (w2 17 (by omega) (by omega)))
    · exact (rows 18 (by omega) (by omega) (by omega) (by omega) (by omega)).trans (x9.trans (w2 18 (by omega) (by omega)))
    · exact (tabs 0 (by omega)).trans (x16.trans ((wt 0).trans (v5 0 (by omega))))
    · exact (rows 15 (by omega) (by omega) (by omega) (by omega) (by omega)).trans (x13.trans w15)
    · rw [show vot (gvI X i) b = vot W b from congrFun (rows 0 (by omega) (by omega) (by omega) (by omega) (by omega)) b]
      by_cases hb : b < nb
      · rw [x23 b hb]; split
        · exact okt_s (by omega) (by omega)
        · rw [show vot V1 b = vot V b from congrFun (w2 0 (by omega) (by omega)) b]; exact G.2.2.2.2.2.2.1 b
      · rw [AW.1.2.2.2 b (by omega)]; exact okt_o (by omega) hb
    · have e : vdc (gvI X i) = vdc V0 := (tabs 4 (by omega)).trans (x11.trans (wt 4))
      rw [e]; exact v6 y x hy hx
  -- the reference
  have kpe : kpA V1 τ i 0 = kpA V0 τ i 0 := by rw [← hV1]; rfl
  have km := keep_M (V := V0) (n := 0) (Stc_eq G.1 v1 (v2 0 (by omega)) (v2 1 (by omega)) (v2 2 (by omega)) (v2 3 (by omega)) (v2 6 (by omega)) (v2 7 (by omega)) (v2 9 (by omega)) (v2 10 (by omega)) (v5 0 (by omega)) (v5 1 (by omega)) (v2 12 (by omega)) (v5 2 (by omega))) R in3 (by unfold live; rw [show vkd V0 = vkd V from v2 3 (by omega)]; exact li) (by
    have := (G.2.2.2.1 i li).1
    unfold Shp at *
    rw [show vsg V0 = vsg V from v2 9 (by omega), show vmn V0 = vmn V from v2 6 (by omega), show vdb V0 = vdb V from v2 10 (by omega), show vrn V0 = vrn V from v2 7 (by omega), show vtw V0 = vtw V from v2 8 (by omega)]; exact this) (by omega)
  rw [← kpe] at km
  have cl := clear_M nb (kpA V1 τ i 0) f in3
  have R3 := RM_kd0 (RM_clr R2 x19 x20 x21 x22) i 0 (by omega)
  have R5 : RM nb (gvI X i) (stS (stA (clrM (kpA V1 τ i 0) i) 6 i (nI 0)) 3 (nI 0)) (Gc a z v f) := by
    refine RM_S (by omega) (RM_V R3 (V5s.trans (x1.trans w1).symm) (rows 0 (by omega) (by omega) (by omega) (by omega) (by omega)) (funext fun j => ?_) (funext fun j => ?_) (funext fun j => ?_) (rows 6 (by omega) (by omega) (by omega) (by omega) (by omega)) (rows 7 (by omega) (by omega) (by omega) (by omega) (by omega)) (rows 9 (by omega) (by omega) (by omega) (by omega) (by omega)) (rows 10 (by omega) (by omega) (by omega) (by omega) (by omega)) (tabs 0 (by omega)) (tabs 1 (by omega)) (rows 11 (by omega) (by omega) (by omega) (by omega) (by omega)) (funext fun x => ?_) (rows 15 (by omega) (by omega) (by omega) (by omega) (by omega)))
    · rw [V5k]; show _ = (setA (clrV W i) 3 i 0).2.1 3 j
      by_cases c : j = i
      · rw [if_pos c, c, setA_e]
      · rw [if_neg c, setA_n _ _ _ c]; show vkd V j = vkd W j; rw [kW]
    · rw [sz5]; show _ = (setA W 4 i 0).2.1 4 j
      by_cases c : j = i
      · rw [if_pos c, c, setA_e]
      · rw [if_neg c, setA_n _ _ _ c]; show vsz V j = vsz W j; rw [x3, show vsz V1 = vsz V from w2 4 (by omega) (by omega)]
    · rw [lk5]; show _ = (setA (setA W 4 i 0) 5 i 0).2.1 5 j
      by_cases c : j = i
      · rw [if_pos c, c, setA_e]
      · rw [if_neg c, setA_n _ _ _ c]; show vlk V0 j = vlk W j; rw [x4, w5]
    · rw [tm5]; show _ = (setA (setA (setA (setA (setA W 4 i 0) 5 i 0) 16 (3 * i) 0) 16 (3 * i + 1) 0) 16 (3 * i + 2) 0).2.1 16 x
      by_cases c2 : x = 3 * i + 2
      · rw [c2, setA_e, if_pos (by omega)]
      · rw [setA_n _ _ _ c2]
        by_cases c1 : x = 3 * i + 1
        · rw [c1, setA_e, if_pos (by omega)]
        · rw [setA_n _ _ _ c1]
          by_cases c0 : x = 3 * i
          · rw [c0, setA_e, if_pos (by omega)]
          · rw [setA_n _ _ _ c0, if_neg (by omega)]; show vtm V x = vtm W x; rw [x7, show vtm V1 = vtm V from w2 16 (by omega) (by omega)]
  refine ⟨gvI X i, d8, stS (stA (clrM (kpA V1 τ i 0) i) 6 i (nI 0)) 3 (nI 0), Gc a z v f, G5, V5s, ?_, D8, ?_, R5, ?_, fun j hj => ?_, ?_⟩
  · rw [V5k, if_neg (fun e => hih e.symm)]; exact hk
  · simp only [fXX0_remove_0_91, dr, obs, lit, litN, shX, er, gb]
  · show upd (kpA V1 τ i 0).1 3 (nI 0) = upd τ.1 3 (nI 0)
    rw [KM.1]
  · show (stA (clrM (kpA V1 τ i 0) i) 6 i (nI 0)).2.1 j = _
    rw [stA_k _ _ _ _ (by omega), (clrM_k _ i).2 j (by omega)]; exact KM.2.1 j (by omega)
  · rcases hbez with ⟨rfl, rfl⟩ | ⟨y, rfl, rfl, hyf⟩
    · have st := set_M nb (stA (clrM (kpA V1 τ i 0) i) 6 i (nI 0)) f (a := a) (n := 4) 0 (by omega) (by omega)
      simp (disch := omega) only [fMX12_remove_0_84, lit, litN, km, obs, cl, nI_ltI', nI_leI', nI_eqI, nI_clampI, n_or, if_neg, if_true, XD_A, st, XD_S]
      rfl
    · obtain ⟨ky, _, ky2, _, _, _⟩ := fl_adr O hlh Dh.1 hyf
      have hyb := Adr_lt h5 ky2
      have A0 : ∀ e, Adr nb V e → Adr nb V0 e := fun e he => by unfold Adr at *; rw [show vot V0 = vot V from v2 0 (by omega)]; exact he
      have ty := two_A h5 R (A0 y ky2)
      have ta := two_A h5 R (A0 a ka2)
      rw [d15] at ty ta
      have hne : ¬ nI y = -nI 1 := by
        rw [show -nI 1 = nI 4294967295 by decide +kernel]; intro e; have := nI_inj (by omega) (by omega) e; omega
      have st := set_M nb (stA (clrM (kpA V1 τ i 0) i) 6 i (nI 0)) f (a := y + 4) (n := 2) (rd2 (vdat V) (y + 4) + rd2 (vdat V) (a + 4)) (by omega) (by omega)
      simp (disch := omega) only [fMX12_remove_0_84, lit, litN, km, obs, cl, nI_ltI', nI_leI', nI_eqI, nI_clampI, n_or, if_neg, hne, if_false, XD_A, nI_add, ty, ta, st, XD_S]
      rw [← hv]; rfl
