def zB (V : VV) (b : Nat) : VV := setR V 15 (wrF (vdat V) (1024 * b) (1024 * b + 1024) 0)
def gZ (V : VV) (b : Nat) : VV := zB (tkB V b) b
def gS (V : VV) (i b : Nat) : VV := setA (vOwn (setA (gZ V b) 9 i b) b 4 i 0) 8 i (vtw V i + 2)
def gD (V : VV) (i b : Nat) : VV := setA (vOwn (setA (gZ V b) 10 i b) b 5 i 0) 8 i (vtw V i + 2)
def gR (V : VV) (i b : Nat) : VV := setA (vOwn (setA (setT (gZ V b) 1 i (vrn V i) b) 7 i (vrn V i + 1)) b 6 i (vrn V i)) 8 i (vtw V i + 2)
def gB (V : VV) (i b : Nat) : VV := setA (vOwn (setA (setT (gZ V b) 0 i (vmn V i) b) 6 i (vmn V i + 1)) b 3 i (vmn V i)) 8 i (vtw V i + 2)
theorem mkB_t' (V : VV) (b t F f c : Nat) : (mkB V b t F f).2.1 0 c = if c = b then t else V.2.1 0 c := mkB_t V b t F f c
theorem mkI_s (V : VV) (b t F f : Nat) : (mkI V b t F f).1 = V.1 := cnt_s _ _ _ _ _ _ _
theorem mkI_t' (V : VV) (b t F f c : Nat) : (mkI V b t F f).2.1 3 c = if c = b then t else V.2.1 3 c := by
  unfold mkI; rw [cnt_a _ _ _ _ _ _ (by omega)]
  by_cases h : c = b
  · rw [if_pos h, h]; exact setA_e _ _ _ _
  · rw [if_neg h]; exact setA_n _ _ _ h
theorem mkI_a (V : VV) (b t F f : Nat) {k : Nat} (h : k ≠ 3) (h2 : k ≠ 13) : (mkI V b t F f).2.1 k = V.2.1 k := by
  unfold mkI; rw [cnt_a _ _ _ _ _ _ h2]; exact setA_o _ _ _ h
theorem mkI_m (V : VV) (b t F f : Nat) {k : Nat} (h : k ≠ 3) : (mkI V b t F f).2.2.1 k = V.2.2.1 k := by
  unfold mkI; rw [cnt_t _ _ _ _ _ _ h]; rfl
theorem mkI_l (V : VV) (b t F f : Nat) : (mkI V b t F f).2.2.2 = V.2.2.2 := cnt_l _ _ _ _ _ _ _
theorem gS_S (V : VV) (i b : Nat) : (gS V i b).1 = V.1 := by show (tkB V b).1 = V.1; exact mkB_s _ _ _ _ _
theorem gS_ot (V : VV) (i b : Nat) (c : Nat) : vot (gS V i b) c = if c = b then 4 else vot V c := by
  by_cases h : c = b <;> simp [gS, gZ, zB, tkB, vOwn, wrF, vP, vQ, vG, vI, vot, voi, vok, vkd, vsz, vlk, vmn, vrn, vtw, vsg, vdb, vpar, vFB, vFI, vdat, vtm, vent, vdp, setA, setT, setS, setR, setE, va_up, up1, mkB_t', mkB_a, mkI_t', mkI_a, h]
theorem gS_oi (V : VV) (i b : Nat) (c : Nat) : voi (gS V i b) c = if c = b then i else voi V c := by
  by_cases h : c = b <;> simp [gS, gZ, zB, tkB, vOwn, wrF, vP, vQ, vG, vI, vot, voi, vok, vkd, vsz, vlk, vmn, vrn, vtw, vsg, vdb, vpar, vFB, vFI, vdat, vtm, vent, vdp, setA, setT, setS, setR, setE, va_up, up1, mkB_t', mkB_a, mkI_t', mkI_a, h]
theorem gS_ok (V : VV) (i b : Nat) (c : Nat) : vok (gS V i b) c = if c = b then 0 else vok V c := by
  by_cases h : c = b <;> simp [gS, gZ, zB, tkB, vOwn, wrF, vP, vQ, vG, vI, vot, voi, vok, vkd, vsz, vlk, vmn, vrn, vtw, vsg, vdb, vpar, vFB, vFI, vdat, vtm, vent, vdp, setA, setT, setS, setR, setE, va_up, up1, mkB_t', mkB_a, mkI_t', mkI_a, h]
theorem gS_kd (V : VV) (i b : Nat) : vkd (gS V i b) = vkd V := by show (tkB V b).2.1 3 = V.2.1 3; exact mkB_a _ _ _ _ _ (by omega) (by omega)
theorem gS_sz (V : VV) (i b : Nat) : vsz (gS V i b) = vsz V := by show (tkB V b).2.1 4 = V.2.1 4; exact mkB_a _ _ _ _ _ (by omega) (by omega)
theorem gS_lk (V : VV) (i b : Nat) : vlk (gS V i b) = vlk V := by show (tkB V b).2.1 5 = V.2.1 5; exact mkB_a _ _ _ _ _ (by omega) (by omega)
theorem gS_mn (V : VV) (i b : Nat) : vmn (gS V i b) = vmn V := by show (tkB V b).2.1 6 = V.2.1 6; exact mkB_a _ _ _ _ _ (by omega) (by omega)
theorem gS_rn (V : VV) (i b : Nat) : vrn (gS V i b) = vrn V := by show (tkB V b).2.1 7 = V.2.1 7; exact mkB_a _ _ _ _ _ (by omega) (by omega)
theorem gS_tw (V : VV) (i b : Nat) (c : Nat) : vtw (gS V i b) c = if c = i then vtw V i + 2 else vtw V c := by
  by_cases h : c = i <;> simp [gS, gZ, zB, tkB, vOwn, wrF, vP, vQ, vG, vI, vot, voi, vok, vkd, vsz, vlk, vmn, vrn, vtw, vsg, vdb, vpar, vFB, vFI, vdat, vtm, vent, vdp, setA, setT, setS, setR, setE, va_up, up1, mkB_t', mkB_a, mkI_t', mkI_a, h]
theorem gS_sg (V : VV) (i b : Nat) (c : Nat) : vsg (gS V i b) c = if c = i then b else vsg V c := by
  by_cases h : c = i <;> simp [gS, gZ, zB, tkB, vOwn, wrF, vP, vQ, vG, vI, vot, voi, vok, vkd, vsz, vlk, vmn, vrn, vtw, vsg, vdb, vpar, vFB, vFI, vdat, vtm, vent, vdp, setA, setT, setS, setR, setE, va_up, up1, mkB_t', mkB_a, mkI_t', mkI_a, h]
theorem gS_db (V : VV) (i b : Nat) : vdb (gS V i b) = vdb V := by show (tkB V b).2.1 10 = V.2.1 10; exact mkB_a _ _ _ _ _ (by omega) (by omega)
theorem gS_par (V : VV) (i b : Nat) : vpar (gS V i b) = vpar V := by show (tkB V b).2.1 11 = V.2.1 11; exact mkB_a _ _ _ _ _ (by omega) (by omega)
theorem gS_FI (V : VV) (i b : Nat) : vFI (gS V i b) = vFI V := by show (tkB V b).2.1 13 = V.2.1 13; exact mkB_a _ _ _ _ _ (by omega) (by omega)
theorem gS_dat (V : VV) (i b : Nat) (c : Nat) : vdat (gS V i b) c = wrF (vdat V) (1024 * b) (1024 * b + 1024) 0 c := by
  by_cases h : c = i <;> simp [gS, gZ, zB, tkB, vOwn, wrF, vP, vQ, vG, vI, vot, voi, vok, vkd, vsz, vlk, vmn, vrn, vtw, vsg, vdb, vpar, vFB, vFI, vdat, vtm, vent, vdp, setA, setT, setS, setR, setE, va_up, up1, mkB_t', mkB_a, mkI_t', mkI_a, h]
theorem gS_tm (V : VV) (i b : Nat) : vtm (gS V i b) = vtm V := by show (tkB V b).2.1 16 = V.2.1 16; exact mkB_a _ _ _ _ _ (by omega) (by omega)
theorem gS_ent (V : VV) (i b : Nat) : vent (gS V i b) = vent V := by show (tkB V b).2.1 17 = V.2.1 17; exact mkB_a _ _ _ _ _ (by omega) (by omega)
theorem gS_dp (V : VV) (i b : Nat) : vdp (gS V i b) = vdp V := by show (tkB V b).2.1 18 = V.2.1 18; exact mkB_a _ _ _ _ _ (by omega) (by omega)
theorem gS_bl (V : VV) (i b : Nat) : vbl (gS V i b) = vbl V := by show (tkB V b).2.2.1 0 = V.2.2.1 0; exact mkB_m _ _ _ _ _ (by omega)
theorem gS_rw (V : VV) (i b : Nat) : vrw (gS V i b) = vrw V := by show (tkB V b).2.2.1 1 = V.2.2.1 1; exact mkB_m _ _ _ _ _ (by omega)
theorem gS_fi (V : VV) (i b : Nat) : vfi (gS V i b) = vfi V := by show (tkB V b).2.2.1 3 = V.2.2.1 3; exact mkB_m _ _ _ _ _ (by omega)
theorem gS_dc (V : VV) (i b : Nat) : vdc (gS V i b) = vdc V := by show (tkB V b).2.2.1 4 = V.2.2.1 4; exact mkB_m _ _ _ _ _ (by omega)
theorem gS_es (V : VV) (i b : Nat) : ves (gS V i b) = ves V := by show (tkB V b).2.2.2 = V.2.2.2; exact mkB_l _ _ _ _ _
theorem gS_P (V : VV) (i b : Nat) : vP (gS V i b) = vP V := congrFun (gS_S V i b) 0
theorem gS_Q (V : VV) (i b : Nat) : vQ (gS V i b) = vQ V := congrFun (gS_S V i b) 1
theorem gS_G (V : VV) (i b : Nat) : vG (gS V i b) = vG V := congrFun (gS_S V i b) 2
theorem gS_I (V : VV) (i b : Nat) : vI (gS V i b) = vI V := congrFun (gS_S V i b) 3
theorem gD_S (V : VV) (i b : Nat) : (gD V i b).1 = V.1 := by show (tkB V b).1 = V.1; exact mkB_s _ _ _ _ _
theorem gD_ot (V : VV) (i b : Nat) (c : Nat) : vot (gD V i b) c = if c = b then 5 else vot V c := by
  by_cases h : c = b <;> simp [gD, gZ, zB, tkB, vOwn, wrF, vP, vQ, vG, vI, vot, voi, vok, vkd, vsz, vlk, vmn, vrn, vtw, vsg, vdb, vpar, vFB, vFI, vdat, vtm, vent, vdp, setA, setT, setS, setR, setE, va_up, up1, mkB_t', mkB_a, mkI_t', mkI_a, h]
theorem gD_oi (V : VV) (i b : Nat) (c : Nat) : voi (gD V i b) c = if c = b then i else voi V c := by
  by_cases h : c = b <;> simp [gD, gZ, zB, tkB, vOwn, wrF, vP, vQ, vG, vI, vot, voi, vok, vkd, vsz, vlk, vmn, vrn, vtw, vsg, vdb, vpar, vFB, vFI, vdat, vtm, vent, vdp, setA, setT, setS, setR, setE, va_up, up1, mkB_t', mkB_a, mkI_t', mkI_a, h]
theorem gD_ok (V : VV) (i b : Nat) (c : Nat) : vok (gD V i b) c = if c = b then 0 else vok V c := by
  by_cases h : c = b <;> simp [gD, gZ, zB, tkB, vOwn, wrF, vP, vQ, vG, vI, vot, voi, vok, vkd, vsz, vlk, vmn, vrn, vtw, vsg, vdb, vpar, vFB, vFI, vdat, vtm, vent, vdp, setA, setT, setS, setR, setE, va_up, up1, mkB_t', mkB_a, mkI_t', mkI_a, h]
theorem gD_kd (V : VV) (i b : Nat) : vkd (gD V i b) = vkd V := by show (tkB V b).2.1 3 = V.2.1 3; exact mkB_a _ _ _ _ _ (by omega) (by omega)
theorem gD_sz (V : VV) (i b : Nat) : vsz (gD V i b) = vsz V := by show (tkB V b).2.1 4 = V.2.1 4; exact mkB_a _ _ _ _ _ (by omega) (by omega)
theorem gD_lk (V : VV) (i b : Nat) : vlk (gD V i b) = vlk V := by show (tkB V b).2.1 5 = V.2.1 5; exact mkB_a _ _ _ _ _ (by omega) (by omega)
theorem gD_mn (V : VV) (i b : Nat) : vmn (gD V i b) = vmn V := by show (tkB V b).2.1 6 = V.2.1 6; exact mkB_a _ _ _ _ _ (by omega) (by omega)
theorem gD_rn (V : VV) (i b : Nat) : vrn (gD V i b) = vrn V := by show (tkB V b).2.1 7 = V.2.1 7; exact mkB_a _ _ _ _ _ (by omega) (by omega)
theorem gD_tw (V : VV) (i b : Nat) (c : Nat) : vtw (gD V i b) c = if c = i then vtw V i + 2 else vtw V c := by
  by_cases h : c = i <;> simp [gD, gZ, zB, tkB, vOwn, wrF, vP, vQ, vG, vI, vot, voi, vok, vkd, vsz, vlk, vmn, vrn, vtw, vsg, vdb, vpar, vFB, vFI, vdat, vtm, vent, vdp, setA, setT, setS, setR, setE, va_up, up1, mkB_t', mkB_a, mkI_t', mkI_a, h]
theorem gD_sg (V : VV) (i b : Nat) : vsg (gD V i b) = vsg V := by show (tkB V b).2.1 9 = V.2.1 9; exact mkB_a _ _ _ _ _ (by omega) (by omega)
theorem gD_db (V : VV) (i b : Nat) (c : Nat) : vdb (gD V i b) c = if c = i then b else vdb V c := by
  by_cases h : c = i <;> simp [gD, gZ, zB, tkB, vOwn, wrF, vP, vQ, vG, vI, vot, voi, vok, vkd, vsz, vlk, vmn, vrn, vtw, vsg, vdb, vpar, vFB, vFI, vdat, vtm, vent, vdp, setA, setT, setS, setR, setE, va_up, up1, mkB_t', mkB_a, mkI_t', mkI_a, h]
theorem gD_par (V : VV) (i b : Nat) : vpar (gD V i b) = vpar V := by show (tkB V b).2.1 11 = V.2.1 11; exact mkB_a _ _ _ _ _ (by omega) (by omega)
theorem gD_FI (V : VV) (i b : Nat) : vFI (gD V i b) = vFI V := by show (tkB V b).2.1 13 = V.2.1 13; exact mkB_a _ _ _ _ _ (by omega) (by omega)
theorem gD_dat (V : VV) (i b : Nat) (c : Nat) : vdat (gD V i b) c = wrF (vdat V) (1024 * b) (1024 * b + 1024) 0 c := by
  by_cases h : c = i <;> simp [gD, gZ, zB, tkB, vOwn, wrF, vP, vQ, vG, vI, vot, voi, vok, vkd, vsz, vlk, vmn, vrn, vtw, vsg, vdb, vpar, vFB, vFI, vdat, vtm, vent, vdp, setA, setT, setS, setR, setE, va_up, up1, mkB_t', mkB_a, mkI_t', mkI_a, h]
theorem gD_tm (V : VV) (i b : Nat) : vtm (gD V i b) = vtm V := by show (tkB V b).2.1 16 = V.2.1 16; exact mkB_a _ _ _ _ _ (by omega) (by omega)
theorem gD_ent (V : VV) (i b : Nat) : vent (gD V i b) = vent V := by show (tkB V b).2.1 17 = V.2.1 17; exact mkB_a _ _ _ _ _ (by omega) (by omega)
theorem gD_dp (V : VV) (i b : Nat) : vdp (gD V i b) = vdp V := by show (tkB V b).2.1 18 = V.2.1 18; exact mkB_a _ _ _ _ _ (by omega) (by omega)
theorem gD_bl (V : VV) (i b : Nat) : vbl (gD V i b) = vbl V := by show (tkB V b).2.2.1 0 = V.2.2.1 0; exact mkB_m _ _ _ _ _ (by omega)
theorem gD_rw (V : VV) (i b : Nat) : vrw (gD V i b) = vrw V := by show (tkB V b).2.2.1 1 = V.2.2.1 1; exact mkB_m _ _ _ _ _ (by omega)
theorem gD_fi (V : VV) (i b : Nat) : vfi (gD V i b) = vfi V := by show (tkB V b).2.2.1 3 = V.2.2.1 3; exact mkB_m _ _ _ _ _ (by omega)
theorem gD_dc (V : VV) (i b : Nat) : vdc (gD V i b) = vdc V := by show (tkB V b).2.2.1 4 = V.2.2.1 4; exact mkB_m _ _ _ _ _ (by omega)
theorem gD_es (V : VV) (i b : Nat) : ves (gD V i b) = ves V := by show (tkB V b).2.2.2 = V.2.2.2; exact mkB_l _ _ _ _ _
theorem gD_P (V : VV) (i b : Nat) : vP (gD V i b) = vP V := congrFun (gD_S V i b) 0
theorem gD_Q (V : VV) (i b : Nat) : vQ (gD V i b) = vQ V := congrFun (gD_S V i b) 1
theorem gD_G (V : VV) (i b : Nat) : vG (gD V i b) = vG V := congrFun (gD_S V i b) 2
theorem gD_I (V : VV) (i b : Nat) : vI (gD V i b) = vI V := congrFun (gD_S V i b) 3
theorem gR_S (V : VV) (i b : Nat) : (gR V i b).1 = V.1 := by show (tkB V b).1 = V.1; exact mkB_s _ _ _ _ _
theorem gR_ot (V : VV) (i b : Nat) (c : Nat) : vot (gR V i b) c = if c = b then 6 else vot V c := by
  by_cases h : c = b <;> simp [gR, gZ, zB, tkB, vOwn, wrF, vP, vQ, vG, vI, vot, voi, vok, vkd, vsz, vlk, vmn, vrn, vtw, vsg, vdb, vpar, vFB, vFI, vdat, vtm, vent, vdp, setA, setT, setS, setR, setE, va_up, up1, mkB_t', mkB_a, mkI_t', mkI_a, h]
theorem gR_oi (V : VV) (i b : Nat) (c : Nat) : voi (gR V i b) c = if c = b then i else voi V c := by
  by_cases h : c = b <;> simp [gR, gZ, zB, tkB, vOwn, wrF, vP, vQ, vG, vI, vot, voi, vok, vkd, vsz, vlk, vmn, vrn, vtw, vsg, vdb, vpar, vFB, vFI, vdat, vtm, vent, vdp, setA, setT, setS, setR, setE, va_up, up1, mkB_t', mkB_a, mkI_t', mkI_a, h]
theorem gR_ok (V : VV) (i b : Nat) (c : Nat) : vok (gR V i b) c = if c = b then vrn V i else vok V c := by
  by_cases h : c = b <;> simp [gR, gZ, zB, tkB, vOwn, wrF, vP, vQ, vG, vI, vot, voi, vok, vkd, vsz, vlk, vmn, vrn, vtw, vsg, vdb, vpar, vFB, vFI, vdat, vtm, vent, vdp, setA, setT, setS, setR, setE, va_up, up1, mkB_t', mkB_a, mkI_t', mkI_a, h]
theorem gR_kd (V : VV) (i b : Nat) : vkd (gR V i b) = vkd V := by show (tkB V b).2.1 3 = V.2.1 3; exact mkB_a _ _ _ _ _ (by omega) (by omega)
theorem gR_sz (V : VV) (i b : Nat) : vsz (gR V i b) = vsz V := by show (tkB V b).2.1 4 = V.2.1 4; exact mkB_a _ _ _ _ _ (by omega) (by omega)
theorem gR_lk (V : VV) (i b : Nat) : vlk (gR V i b) = vlk V := by show (tkB V b).2.1 5 = V.2.1 5; exact mkB_a _ _ _ _ _ (by omega) (by omega)
theorem gR_mn (V : VV) (i b : Nat) : vmn (gR V i b) = vmn V := by show (tkB V b).2.1 6 = V.2.1 6; exact mkB_a _ _ _ _ _ (by omega) (by omega)
theorem gR_rn (V : VV) (i b : Nat) (c : Nat) : vrn (gR V i b) c = if c = i then vrn V i + 1 else vrn V c := by
  by_cases h : c = i <;> simp [gR, gZ, zB, tkB, vOwn, wrF, vP, vQ, vG, vI, vot, voi, vok, vkd, vsz, vlk, vmn, vrn, vtw, vsg, vdb, vpar, vFB, vFI, vdat, vtm, vent, vdp, setA, setT, setS, setR, setE, va_up, up1, mkB_t', mkB_a, mkI_t', mkI_a, h]
theorem gR_tw (V : VV) (i b : Nat) (c : Nat) : vtw (gR V i b) c = if c = i then vtw V i + 2 else vtw V c := by
  by_cases h : c = i <;> simp [gR, gZ, zB, tkB, vOwn, wrF, vP, vQ, vG, vI, vot, voi, vok, vkd, vsz, vlk, vmn, vrn, vtw, vsg, vdb, vpar, vFB, vFI, vdat, vtm, vent, vdp, setA, setT, setS, setR, setE, va_up, up1, mkB_t', mkB_a, mkI_t', mkI_a, h]
theorem gR_sg (V : VV) (i b : Nat) : vsg (gR V i b) = vsg V := by show (tkB V b).2.1 9 = V.2.1 9; exact mkB_a _ _ _ _ _ (by omega) (by omega)
theorem gR_db (V : VV) (i b : Nat) : vdb (gR V i b) = vdb V := by show (tkB V b).2.1 10 = V.2.1 10; exact mkB_a _ _ _ _ _ (by omega) (by omega)
theorem gR_par (V : VV) (i b : Nat) : vpar (gR V i b) = vpar V := by show (tkB V b).2.1 11 = V.2.1 11; exact mkB_a _ _ _ _ _ (by omega) (by omega)
theorem gR_FI (V : VV) (i b : Nat) : vFI (gR V i b) = vFI V := by show (tkB V b).2.1 13 = V.2.1 13; exact mkB_a _ _ _ _ _ (by omega) (by omega)
theorem gR_dat (V : VV) (i b : Nat) (c : Nat) : vdat (gR V i b) c = wrF (vdat V) (1024 * b) (1024 * b + 1024) 0 c := by
  by_cases h : c = i <;> simp [gR, gZ, zB, tkB, vOwn, wrF, vP, vQ, vG, vI, vot, voi, vok, vkd, vsz, vlk, vmn, vrn, vtw, vsg, vdb, vpar, vFB, vFI, vdat, vtm, vent, vdp, setA, setT, setS, setR, setE, va_up, up1, mkB_t', mkB_a, mkI_t', mkI_a, h]
theorem gR_tm (V : VV) (i b : Nat) : vtm (gR V i b) = vtm V := by show (tkB V b).2.1 16 = V.2.1 16; exact mkB_a _ _ _ _ _ (by omega) (by omega)
theorem gR_ent (V : VV) (i b : Nat) : vent (gR V i b) = vent V := by show (tkB V b).2.1 17 = V.2.1 17; exact mkB_a _ _ _ _ _ (by omega) (by omega)
theorem gR_dp (V : VV) (i b : Nat) : vdp (gR V i b) = vdp V := by show (tkB V b).2.1 18 = V.2.1 18; exact mkB_a _ _ _ _ _ (by omega) (by omega)
theorem gR_bl (V : VV) (i b : Nat) : vbl (gR V i b) = vbl V := by show (tkB V b).2.2.1 0 = V.2.2.1 0; exact mkB_m _ _ _ _ _ (by omega)
theorem gR_rw (V : VV) (i b : Nat) (j c : Nat) : vrw (gR V i b) j c = if j = i ∧ c = vrn V i then b else vrw V j c := by
  show va_up (tkB V b).2.2.1 1 (va_up ((tkB V b).2.2.1 1) i (up1 ((tkB V b).2.2.1 1 i) (vrn V i) b)) 1 j c = _
  rw [va_up_self, show (tkB V b).2.2.1 1 = V.2.2.1 1 from mkB_m _ _ _ _ _ (by omega)]
  by_cases h : j = i
  · subst h; rw [va_up_self, up1]
    by_cases h2 : c = vrn V j
    · rw [if_pos h2, if_pos ⟨rfl, h2⟩]
    · rw [if_neg h2, if_neg (fun e => h2 e.2)]
  · rw [va_up_ne _ _ h, if_neg (fun e => h e.1)]
theorem gR_fi (V : VV) (i b : Nat) : vfi (gR V i b) = vfi V := by show (tkB V b).2.2.1 3 = V.2.2.1 3; exact mkB_m _ _ _ _ _ (by omega)
theorem gR_dc (V : VV) (i b : Nat) : vdc (gR V i b) = vdc V := by show (tkB V b).2.2.1 4 = V.2.2.1 4; exact mkB_m _ _ _ _ _ (by omega)
theorem gR_es (V : VV) (i b : Nat) : ves (gR V i b) = ves V := by show (tkB V b).2.2.2 = V.2.2.2; exact mkB_l _ _ _ _ _
theorem gR_P (V : VV) (i b : Nat) : vP (gR V i b) = vP V := congrFun (gR_S V i b) 0
theorem gR_Q (V : VV) (i b : Nat) : vQ (gR V i b) = vQ V := congrFun (gR_S V i b) 1
theorem gR_G (V : VV) (i b : Nat) : vG (gR V i b) = vG V := congrFun (gR_S V i b) 2
theorem gR_I (V : VV) (i b : Nat) : vI (gR V i b) = vI V := congrFun (gR_S V i b) 3
theorem gB_S (V : VV) (i b : Nat) : (gB V i b).1 = V.1 := by show (tkB V b).1 = V.1; exact mkB_s _ _ _ _ _
theorem gB_ot (V : VV) (i b : Nat) (c : Nat) : vot (gB V i b) c = if c = b then 3 else vot V c := by
  by_cases h : c = b <;> simp [gB, gZ, zB, tkB, vOwn, wrF, vP, vQ, vG, vI, vot, voi, vok, vkd, vsz, vlk, vmn, vrn, vtw, vsg, vdb, vpar, vFB, vFI, vdat, vtm, vent, vdp, setA, setT, setS, setR, setE, va_up, up1, mkB_t', mkB_a, mkI_t', mkI_a, h]
theorem gB_oi (V : VV) (i b : Nat) (c : Nat) : voi (gB V i b) c = if c = b then i else voi V c := by
  by_cases h : c = b <;> simp [gB, gZ, zB, tkB, vOwn, wrF, vP, vQ, vG, vI, vot, voi, vok, vkd, vsz, vlk, vmn, vrn, vtw, vsg, vdb, vpar, vFB, vFI, vdat, vtm, vent, vdp, setA, setT, setS, setR, setE, va_up, up1, mkB_t', mkB_a, mkI_t', mkI_a, h]
theorem gB_ok (V : VV) (i b : Nat) (c : Nat) : vok (gB V i b) c = if c = b then vmn V i else vok V c := by
  by_cases h : c = b <;> simp [gB, gZ, zB, tkB, vOwn, wrF, vP, vQ, vG, vI, vot, voi, vok, vkd, vsz, vlk, vmn, vrn, vtw, vsg, vdb, vpar, vFB, vFI, vdat, vtm, vent, vdp, setA, setT, setS, setR, setE, va_up, up1, mkB_t', mkB_a, mkI_t', mkI_a, h]
theorem gB_kd (V : VV) (i b : Nat) : vkd (gB V i b) = vkd V := by show (tkB V b).2.1 3 = V.2.1 3; exact mkB_a _ _ _ _ _ (by omega) (by omega)
theorem gB_sz (V : VV) (i b : Nat) : vsz (gB V i b) = vsz V := by show (tkB V b).2.1 4 = V.2.1 4; exact mkB_a _ _ _ _ _ (by omega) (by omega)
theorem gB_lk (V : VV) (i b : Nat) : vlk (gB V i b) = vlk V := by show (tkB V b).2.1 5 = V.2.1 5; exact mkB_a _ _ _ _ _ (by omega) (by omega)
theorem gB_mn (V : VV) (i b : Nat) (c : Nat) : vmn (gB V i b) c = if c = i then vmn V i + 1 else vmn V c := by
  by_cases h : c = i <;> simp [gB, gZ, zB, tkB, vOwn, wrF, vP, vQ, vG, vI, vot, voi, vok, vkd, vsz, vlk, vmn, vrn, vtw, vsg, vdb, vpar, vFB, vFI, vdat, vtm, vent, vdp, setA, setT, setS, setR, setE, va_up, up1, mkB_t', mkB_a, mkI_t', mkI_a, h]
theorem gB_rn (V : VV) (i b : Nat) : vrn (gB V i b) = vrn V := by show (tkB V b).2.1 7 = V.2.1 7; exact mkB_a _ _ _ _ _ (by omega) (by omega)
theorem gB_tw (V : VV) (i b : Nat) (c : Nat) : vtw (gB V i b) c = if c = i then vtw V i + 2 else vtw V c := by
  by_cases h : c = i <;> simp [gB, gZ, zB, tkB, vOwn, wrF, vP, vQ, vG, vI, vot, voi, vok, vkd, vsz, vlk, vmn, vrn, vtw, vsg, vdb, vpar, vFB, vFI, vdat, vtm, vent, vdp, setA, setT, setS, setR, setE, va_up, up1, mkB_t', mkB_a, mkI_t', mkI_a, h]
theorem gB_sg (V : VV) (i b : Nat) : vsg (gB V i b) = vsg V := by show (tkB V b).2.1 9 = V.2.1 9; exact mkB_a _ _ _ _ _ (by omega) (by omega)
theorem gB_db (V : VV) (i b : Nat) : vdb (gB V i b) = vdb V := by show (tkB V b).2.1 10 = V.2.1 10; exact mkB_a _ _ _ _ _ (by omega) (by omega)
theorem gB_par (V : VV) (i b : Nat) : vpar (gB V i b) = vpar V := by show (tkB V b).2.1 11 = V.2.1 11; exact mkB_a _ _ _ _ _ (by omega) (by omega)
theorem gB_FI (V : VV) (i b : Nat) : vFI (gB V i b) = vFI V := by show (tkB V b).2.1 13 = V.2.1 13; exact mkB_a _ _ _ _ _ (by omega) (by omega)
theorem gB_dat (V : VV) (i b : Nat) (c : Nat) : vdat (gB V i b) c = wrF (vdat V) (1024 * b) (1024 * b + 1024) 0 c := by
  by_cases h : c = i <;> simp [gB, gZ, zB, tkB, vOwn, wrF, vP, vQ, vG, vI, vot, voi, vok, vkd, vsz, vlk, vmn, vrn, vtw, vsg, vdb, vpar, vFB, vFI, vdat, vtm, vent, vdp, setA, setT, setS, setR, setE, va_up, up1, mkB_t', mkB_a, mkI_t', mkI_a, h]
theorem gB_tm (V : VV) (i b : Nat) : vtm (gB V i b) = vtm V := by show (tkB V b).2.1 16 = V.2.1 16; exact mkB_a _ _ _ _ _ (by omega) (by omega)
theorem gB_ent (V : VV) (i b : Nat) : vent (gB V i b) = vent V := by show (tkB V b).2.1 17 = V.2.1 17; exact mkB_a _ _ _ _ _ (by omega) (by omega)
theorem gB_dp (V : VV) (i b : Nat) : vdp (gB V i b) = vdp V := by show (tkB V b).2.1 18 = V.2.1 18; exact mkB_a _ _ _ _ _ (by omega) (by omega)
theorem gB_bl (V : VV) (i b : Nat) (j c : Nat) : vbl (gB V i b) j c = if j = i ∧ c = vmn V i then b else vbl V j c := by
  show va_up (tkB V b).2.2.1 0 (va_up ((tkB V b).2.2.1 0) i (up1 ((tkB V b).2.2.1 0 i) (vmn V i) b)) 0 j c = _
  rw [va_up_self, show (tkB V b).2.2.1 0 = V.2.2.1 0 from mkB_m _ _ _ _ _ (by omega)]
  by_cases h : j = i
  · subst h; rw [va_up_self, up1]
    by_cases h2 : c = vmn V j
    · rw [if_pos h2, if_pos ⟨rfl, h2⟩]
    · rw [if_neg h2, if_neg (fun e => h2 e.2)]
  · rw [va_up_ne _ _ h, if_neg (fun e => h e.1)]
theorem gB_rw (V : VV) (i b : Nat) : vrw (gB V i b) = vrw V := by show (tkB V b).2.2.1 1 = V.2.2.1 1; exact mkB_m _ _ _ _ _ (by omega)
theorem gB_fi (V : VV) (i b : Nat) : vfi (gB V i b) = vfi V := by show (tkB V b).2.2.1 3 = V.2.2.1 3; exact mkB_m _ _ _ _ _ (by omega)
theorem gB_dc (V : VV) (i b : Nat) : vdc (gB V i b) = vdc V := by show (tkB V b).2.2.1 4 = V.2.2.1 4; exact mkB_m _ _ _ _ _ (by omega)
theorem gB_es (V : VV) (i b : Nat) : ves (gB V i b) = ves V := by show (tkB V b).2.2.2 = V.2.2.2; exact mkB_l _ _ _ _ _
theorem gB_P (V : VV) (i b : Nat) : vP (gB V i b) = vP V := congrFun (gB_S V i b) 0
theorem gB_Q (V : VV) (i b : Nat) : vQ (gB V i b) = vQ V := congrFun (gB_S V i b) 1
theorem gB_G (V : VV) (i b : Nat) : vG (gB V i b) = vG V := congrFun (gB_S V i b) 2
theorem gB_I (V : VV) (i b : Nat) : vI (gB V i b) = vI V := congrFun (gB_S V i b) 3
