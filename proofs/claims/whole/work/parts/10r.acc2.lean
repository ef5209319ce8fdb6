def lB (V : VV) (i b : Nat) : VV := setA (setA (gvB V b) 6 i (vmn V i - 1)) 8 i (vtw V i - 2)
def lS (V : VV) (i b : Nat) : VV := setA (setA (gvB V b) 9 i 0) 8 i (vtw V i - 2)
def lR (V : VV) (i b : Nat) : VV := setA (setA (gvB V b) 7 i (vrn V i - 1)) 8 i (vtw V i - 2)
def lD (V : VV) (i b : Nat) : VV := setA (setA (gvB V b) 10 i 0) 8 i (vtw V i - 2)
set_option maxRecDepth 4096 in
theorem lB_S (V : VV) (i b : Nat) : (lB V i b).1 = V.1 := by show (gvB V b).1 = V.1; exact mkB_s _ _ _ _ _
set_option maxRecDepth 4096 in
theorem lB_ot (V : VV) (i b : Nat) (c : Nat) : vot (lB V i b) c = if c = b then 0 else vot V c := by
  by_cases h : c = b <;> simp [lB, gvB, wrF, vP, vQ, vG, vI, vot, voi, vok, vkd, vsz, vlk, vmn, vrn, vtw, vsg, vdb, vpar, vFB, vFI, vdat, vtm, vent, vdp, setA, setT, setS, setR, setE, va_up, up1, mkB_t', mkB_a, mkI_t', mkI_a, h]
set_option maxRecDepth 4096 in
theorem lB_oi (V : VV) (i b : Nat) : voi (lB V i b) = voi V := by show (gvB V b).2.1 1 = V.2.1 1; exact mkB_a _ _ _ _ _ (by omega) (by omega)
set_option maxRecDepth 4096 in
theorem lB_ok (V : VV) (i b : Nat) : vok (lB V i b) = vok V := by show (gvB V b).2.1 2 = V.2.1 2; exact mkB_a _ _ _ _ _ (by omega) (by omega)
set_option maxRecDepth 4096 in
theorem lB_kd (V : VV) (i b : Nat) : vkd (lB V i b) = vkd V := by show (gvB V b).2.1 3 = V.2.1 3; exact mkB_a _ _ _ _ _ (by omega) (by omega)
set_option maxRecDepth 4096 in
theorem lB_sz (V : VV) (i b : Nat) : vsz (lB V i b) = vsz V := by show (gvB V b).2.1 4 = V.2.1 4; exact mkB_a _ _ _ _ _ (by omega) (by omega)
set_option maxRecDepth 4096 in
theorem lB_lk (V : VV) (i b : Nat) : vlk (lB V i b) = vlk V := by show (gvB V b).2.1 5 = V.2.1 5; exact mkB_a _ _ _ _ _ (by omega) (by omega)
set_option maxRecDepth 4096 in
theorem lB_mn (V : VV) (i b : Nat) (c : Nat) : vmn (lB V i b) c = if c = i then vmn V i - 1 else vmn V c := by
  by_cases h : c = i <;> simp [lB, gvB, wrF, vP, vQ, vG, vI, vot, voi, vok, vkd, vsz, vlk, vmn, vrn, vtw, vsg, vdb, vpar, vFB, vFI, vdat, vtm, vent, vdp, setA, setT, setS, setR, setE, va_up, up1, mkB_t', mkB_a, mkI_t', mkI_a, h]
set_option maxRecDepth 4096 in
theorem lB_rn (V : VV) (i b : Nat) : vrn (lB V i b) = vrn V := by show (gvB V b).2.1 7 = V.2.1 7; exact mkB_a _ _ _ _ _ (by omega) (by omega)
set_option maxRecDepth 4096 in
theorem lB_tw (V : VV) (i b : Nat) (c : Nat) : vtw (lB V i b) c = if c = i then vtw V i - 2 else vtw V c := by
  by_cases h : c = i <;> simp [lB, gvB, wrF, vP, vQ, vG, vI, vot, voi, vok, vkd, vsz, vlk, vmn, vrn, vtw, vsg, vdb, vpar, vFB, vFI, vdat, vtm, vent, vdp, setA, setT, setS, setR, setE, va_up, up1, mkB_t', mkB_a, mkI_t', mkI_a, h]
set_option maxRecDepth 4096 in
theorem lB_sg (V : VV) (i b : Nat) : vsg (lB V i b) = vsg V := by show (gvB V b).2.1 9 = V.2.1 9; exact mkB_a _ _ _ _ _ (by omega) (by omega)
set_option maxRecDepth 4096 in
theorem lB_db (V : VV) (i b : Nat) : vdb (lB V i b) = vdb V := by show (gvB V b).2.1 10 = V.2.1 10; exact mkB_a _ _ _ _ _ (by omega) (by omega)
set_option maxRecDepth 4096 in
theorem lB_par (V : VV) (i b : Nat) : vpar (lB V i b) = vpar V := by show (gvB V b).2.1 11 = V.2.1 11; exact mkB_a _ _ _ _ _ (by omega) (by omega)
set_option maxRecDepth 4096 in
theorem lB_FI (V : VV) (i b : Nat) : vFI (lB V i b) = vFI V := by show (gvB V b).2.1 13 = V.2.1 13; exact mkB_a _ _ _ _ _ (by omega) (by omega)
set_option maxRecDepth 4096 in
theorem lB_dat (V : VV) (i b : Nat) : vdat (lB V i b) = vdat V := by show (gvB V b).2.1 15 = V.2.1 15; exact mkB_a _ _ _ _ _ (by omega) (by omega)
set_option maxRecDepth 4096 in
theorem lB_tm (V : VV) (i b : Nat) : vtm (lB V i b) = vtm V := by show (gvB V b).2.1 16 = V.2.1 16; exact mkB_a _ _ _ _ _ (by omega) (by omega)
set_option maxRecDepth 4096 in
theorem lB_ent (V : VV) (i b : Nat) : vent (lB V i b) = vent V := by show (gvB V b).2.1 17 = V.2.1 17; exact mkB_a _ _ _ _ _ (by omega) (by omega)
set_option maxRecDepth 4096 in
theorem lB_dp (V : VV) (i b : Nat) : vdp (lB V i b) = vdp V := by show (gvB V b).2.1 18 = V.2.1 18; exact mkB_a _ _ _ _ _ (by omega) (by omega)
set_option maxRecDepth 4096 in
theorem lB_bl (V : VV) (i b : Nat) : vbl (lB V i b) = vbl V := by show (gvB V b).2.2.1 0 = V.2.2.1 0; exact mkB_m _ _ _ _ _ (by omega)
set_option maxRecDepth 4096 in
theorem lB_rw (V : VV) (i b : Nat) : vrw (lB V i b) = vrw V := by show (gvB V b).2.2.1 1 = V.2.2.1 1; exact mkB_m _ _ _ _ _ (by omega)
set_option maxRecDepth 4096 in
theorem lB_fi (V : VV) (i b : Nat) : vfi (lB V i b) = vfi V := by show (gvB V b).2.2.1 3 = V.2.2.1 3; exact mkB_m _ _ _ _ _ (by omega)
set_option maxRecDepth 4096 in
theorem lB_dc (V : VV) (i b : Nat) : vdc (lB V i b) = vdc V := by show (gvB V b).2.2.1 4 = V.2.2.1 4; exact mkB_m _ _ _ _ _ (by omega)
set_option maxRecDepth 4096 in
theorem lB_es (V : VV) (i b : Nat) : ves (lB V i b) = ves V := by show (gvB V b).2.2.2 = V.2.2.2; exact mkB_l _ _ _ _ _
set_option maxRecDepth 4096 in
theorem lB_P (V : VV) (i b : Nat) : vP (lB V i b) = vP V := congrFun (lB_S V i b) 0
set_option maxRecDepth 4096 in
theorem lB_Q (V : VV) (i b : Nat) : vQ (lB V i b) = vQ V := congrFun (lB_S V i b) 1
set_option maxRecDepth 4096 in
theorem lB_G (V : VV) (i b : Nat) : vG (lB V i b) = vG V := congrFun (lB_S V i b) 2
set_option maxRecDepth 4096 in
theorem lB_I (V : VV) (i b : Nat) : vI (lB V i b) = vI V := congrFun (lB_S V i b) 3
set_option maxRecDepth 4096 in
theorem lS_S (V : VV) (i b : Nat) : (lS V i b).1 = V.1 := by show (gvB V b).1 = V.1; exact mkB_s _ _ _ _ _
set_option maxRecDepth 4096 in
theorem lS_ot (V : VV) (i b : Nat) (c : Nat) : vot (lS V i b) c = if c = b then 0 else vot V c := by
  by_cases h : c = b <;> simp [lS, gvB, wrF, vP, vQ, vG, vI, vot, voi, vok, vkd, vsz, vlk, vmn, vrn, vtw, vsg, vdb, vpar, vFB, vFI, vdat, vtm, vent, vdp, setA, setT, setS, setR, setE, va_up, up1, mkB_t', mkB_a, mkI_t', mkI_a, h]
set_option maxRecDepth 4096 in
theorem lS_oi (V : VV) (i b : Nat) : voi (lS V i b) = voi V := by show (gvB V b).2.1 1 = V.2.1 1; exact mkB_a _ _ _ _ _ (by omega) (by omega)
set_option maxRecDepth 4096 in
theorem lS_ok (V : VV) (i b : Nat) : vok (lS V i b) = vok V := by show (gvB V b).2.1 2 = V.2.1 2; exact mkB_a _ _ _ _ _ (by omega) (by omega)
set_option maxRecDepth 4096 in
theorem lS_kd (V : VV) (i b : Nat) : vkd (lS V i b) = vkd V := by show (gvB V b).2.1 3 = V.2.1 3; exact mkB_a _ _ _ _ _ (by omega) (by omega)
set_option maxRecDepth 4096 in
theorem lS_sz (V : VV) (i b : Nat) : vsz (lS V i b) = vsz V := by show (gvB V b).2.1 4 = V.2.1 4; exact mkB_a _ _ _ _ _ (by omega) (by omega)
set_option maxRecDepth 4096 in
theorem lS_lk (V : VV) (i b : Nat) : vlk (lS V i b) = vlk V := by show (gvB V b).2.1 5 = V.2.1 5; exact mkB_a _ _ _ _ _ (by omega) (by omega)
set_option maxRecDepth 4096 in
theorem lS_mn (V : VV) (i b : Nat) : vmn (lS V i b) = vmn V := by show (gvB V b).2.1 6 = V.2.1 6; exact mkB_a _ _ _ _ _ (by omega) (by omega)
set_option maxRecDepth 4096 in
theorem lS_rn (V : VV) (i b : Nat) : vrn (lS V i b) = vrn V := by show (gvB V b).2.1 7 = V.2.1 7; exact mkB_a _ _ _ _ _ (by omega) (by omega)
set_option maxRecDepth 4096 in
theorem lS_tw (V : VV) (i b : Nat) (c : Nat) : vtw (lS V i b) c = if c = i then vtw V i - 2 else vtw V c := by
  by_cases h : c = i <;> simp [lS, gvB, wrF, vP, vQ, vG, vI, vot, voi, vok, vkd, vsz, vlk, vmn, vrn, vtw, vsg, vdb, vpar, vFB, vFI, vdat, vtm, vent, vdp, setA, setT, setS, setR, setE, va_up, up1, mkB_t', mkB_a, mkI_t', mkI_a, h]
set_option maxRecDepth 4096 in
theorem lS_sg (V : VV) (i b : Nat) (c : Nat) : vsg (lS V i b) c = if c = i then 0 else vsg V c := by
  by_cases h : c = i <;> simp [lS, gvB, wrF, vP, vQ, vG, vI, vot, voi, vok, vkd, vsz, vlk, vmn, vrn, vtw, vsg, vdb, vpar, vFB, vFI, vdat, vtm, vent, vdp, setA, setT, setS, setR, setE, va_up, up1, mkB_t', mkB_a, mkI_t', mkI_a, h]
set_option maxRecDepth 4096 in
theorem lS_db (V : VV) (i b : Nat) : vdb (lS V i b) = vdb V := by show (gvB V b).2.1 10 = V.2.1 10; exact mkB_a _ _ _ _ _ (by omega) (by omega)
set_option maxRecDepth 4096 in
theorem lS_par (V : VV) (i b : Nat) : vpar (lS V i b) = vpar V := by show (gvB V b).2.1 11 = V.2.1 11; exact mkB_a _ _ _ _ _ (by omega) (by omega)
set_option maxRecDepth 4096 in
theorem lS_FI (V : VV) (i b : Nat) : vFI (lS V i b) = vFI V := by show (gvB V b).2.1 13 = V.2.1 13; exact mkB_a _ _ _ _ _ (by omega) (by omega)
set_option maxRecDepth 4096 in
theorem lS_dat (V : VV) (i b : Nat) : vdat (lS V i b) = vdat V := by show (gvB V b).2.1 15 = V.2.1 15; exact mkB_a _ _ _ _ _ (by omega) (by omega)
set_option maxRecDepth 4096 in
theorem lS_tm (V : VV) (i b : Nat) : vtm (lS V i b) = vtm V := by show (gvB V b).2.1 16 = V.2.1 16; exact mkB_a _ _ _ _ _ (by omega) (by omega)
set_option maxRecDepth 4096 in
theorem lS_ent (V : VV) (i b : Nat) : vent (lS V i b) = vent V := by show (gvB V b).2.1 17 = V.2.1 17; exact mkB_a _ _ _ _ _ (by omega) (by omega)
set_option maxRecDepth 4096 in
theorem lS_dp (V : VV) (i b : Nat) : vdp (lS V i b) = vdp V := by show (gvB V b).2.1 18 = V.2.1 18; exact mkB_a _ _ _ _ _ (by omega) (by omega)
set_option maxRecDepth 4096 in
theorem lS_bl (V : VV) (i b : Nat) : vbl (lS V i b) = vbl V := by show (gvB V b).2.2.1 0 = V.2.2.1 0; exact mkB_m _ _ _ _ _ (by omega)
set_option maxRecDepth 4096 in
theorem lS_rw (V : VV) (i b : Nat) : vrw (lS V i b) = vrw V := by show (gvB V b).2.2.1 1 = V.2.2.1 1; exact mkB_m _ _ _ _ _ (by omega)
set_option maxRecDepth 4096 in
theorem lS_fi (V : VV) (i b : Nat) : vfi (lS V i b) = vfi V := by show (gvB V b).2.2.1 3 = V.2.2.1 3; exact mkB_m _ _ _ _ _ (by omega)
set_option maxRecDepth 4096 in
theorem lS_dc (V : VV) (i b : Nat) : vdc (lS V i b) = vdc V := by show (gvB V b).2.2.1 4 = V.2.2.1 4; exact mkB_m _ _ _ _ _ (by omega)
set_option maxRecDepth 4096 in
theorem lS_es (V : VV) (i b : Nat) : ves (lS V i b) = ves V := by show (gvB V b).2.2.2 = V.2.2.2; exact mkB_l _ _ _ _ _
set_option maxRecDepth 4096 in
theorem lS_P (V : VV) (i b : Nat) : vP (lS V i b) = vP V := congrFun (lS_S V i b) 0
set_option maxRecDepth 4096 in
theorem lS_Q (V : VV) (i b : Nat) : vQ (lS V i b) = vQ V := congrFun (lS_S V i b) 1
set_option maxRecDepth 4096 in
theorem lS_G (V : VV) (i b : Nat) : vG (lS V i b) = vG V := congrFun (lS_S V i b) 2
set_option maxRecDepth 4096 in
theorem lS_I (V : VV) (i b : Nat) : vI (lS V i b) = vI V := congrFun (lS_S V i b) 3
set_option maxRecDepth 4096 in
theorem lR_S (V : VV) (i b : Nat) : (lR V i b).1 = V.1 := by show (gvB V b).1 = V.1; exact mkB_s _ _ _ _ _
set_option maxRecDepth 4096 in
theorem lR_ot (V : VV) (i b : Nat) (c : Nat) : vot (lR V i b) c = if c = b then 0 else vot V c := by
  by_cases h : c = b <;> simp [lR, gvB, wrF, vP, vQ, vG, vI, vot, voi, vok, vkd, vsz, vlk, vmn, vrn, vtw, vsg, vdb, vpar, vFB, vFI, vdat, vtm, vent, vdp, setA, setT, setS, setR, setE, va_up, up1, mkB_t', mkB_a, mkI_t', mkI_a, h]
set_option maxRecDepth 4096 in
theorem lR_oi (V : VV) (i b : Nat) : voi (lR V i b) = voi V := by show (gvB V b).2.1 1 = V.2.1 1; exact mkB_a _ _ _ _ _ (by omega) (by omega)
set_option maxRecDepth 4096 in
theorem lR_ok (V : VV) (i b : Nat) : vok (lR V i b) = vok V := by show (gvB V b).2.1 2 = V.2.1 2; exact mkB_a _ _ _ _ _ (by omega) (by omega)
set_option maxRecDepth 4096 in
theorem lR_kd (V : VV) (i b : Nat) : vkd (lR V i b) = vkd V := by show (gvB V b).2.1 3 = V.2.1 3; exact mkB_a _ _ _ _ _ (by omega) (by omega)
set_option maxRecDepth 4096 in
theorem lR_sz (V : VV) (i b : Nat) : vsz (lR V i b) = vsz V := by show (gvB V b).2.1 4 = V.2.1 4; exact mkB_a _ _ _ _ _ (by omega) (by omega)
set_option maxRecDepth 4096 in
theorem lR_lk (V : VV) (i b : Nat) : vlk (lR V i b) = vlk V := by show (gvB V b).2.1 5 = V.2.1 5; exact mkB_a _ _ _ _ _ (by omega) (by omega)
set_option maxRecDepth 4096 in
theorem lR_mn (V : VV) (i b : Nat) : vmn (lR V i b) = vmn V := by show (gvB V b).2.1 6 = V.2.1 6; exact mkB_a _ _ _ _ _ (by omega) (by omega)
set_option maxRecDepth 4096 in
theorem lR_rn (V : VV) (i b : Nat) (c : Nat) : vrn (lR V i b) c = if c = i then vrn V i - 1 else vrn V c := by
  by_cases h : c = i <;> simp [lR, gvB, wrF, vP, vQ, vG, vI, vot, voi, vok, vkd, vsz, vlk, vmn, vrn, vtw, vsg, vdb, vpar, vFB, vFI, vdat, vtm, vent, vdp, setA, setT, setS, setR, setE, va_up, up1, mkB_t', mkB_a, mkI_t', mkI_a, h]
set_option maxRecDepth 4096 in
theorem lR_tw (V : VV) (i b : Nat) (c : Nat) : vtw (lR V i b) c = if c = i then vtw V i - 2 else vtw V c := by
  by_cases h : c = i <;> simp [lR, gvB, wrF, vP, vQ, vG, vI, vot, voi, vok, vkd, vsz, vlk, vmn, vrn, vtw, vsg, vdb, vpar, vFB, vFI, vdat, vtm, vent, vdp, setA, setT, setS, setR, setE, va_up, up1, mkB_t', mkB_a, mkI_t', mkI_a, h]
set_option maxRecDepth 4096 in
theorem lR_sg (V : VV) (i b : Nat) : vsg (lR V i b) = vsg V := by show (gvB V b).2.1 9 = V.2.1 9; exact mkB_a _ _ _ _ _ (by omega) (by omega)
set_option maxRecDepth 4096 in
theorem lR_db (V : VV) (i b : Nat) : vdb (lR V i b) = vdb V := by show (gvB V b).2.1 10 = V.2.1 10; exact mkB_a _ _ _ _ _ (by omega) (by omega)
set_option maxRecDepth 4096 in
theorem lR_par (V : VV) (i b : Nat) : vpar (lR V i b) = vpar V := by show (gvB V b).2.1 11 = V.2.1 11; exact mkB_a _ _ _ _ _ (by omega) (by omega)
set_option maxRecDepth 4096 in
theorem lR_FI (V : VV) (i b : Nat) : vFI (lR V i b) = vFI V := by show (gvB V b).2.1 13 = V.2.1 13; exact mkB_a _ _ _ _ _ (by omega) (by omega)
set_option maxRecDepth 4096 in
theorem lR_dat (V : VV) (i b : Nat) : vdat (lR V i b) = vdat V := by show (gvB V b).2.1 15 = V.2.1 15; exact mkB_a _ _ _ _ _ (by omega) (by omega)
set_option maxRecDepth 4096 in
theorem lR_tm (V : VV) (i b : Nat) : vtm (lR V i b) = vtm V := by show (gvB V b).2.1 16 = V.2.1 16; exact mkB_a _ _ _ _ _ (by omega) (by omega)
set_option maxRecDepth 4096 in
theorem lR_ent (V : VV) (i b : Nat) : vent (lR V i b) = vent V := by show (gvB V b).2.1 17 = V.2.1 17; exact mkB_a _ _ _ _ _ (by omega) (by omega)
set_option maxRecDepth 4096 in
theorem lR_dp (V : VV) (i b : Nat) : vdp (lR V i b) = vdp V := by show (gvB V b).2.1 18 = V.2.1 18; exact mkB_a _ _ _ _ _ (by omega) (by omega)
set_option maxRecDepth 4096 in
theorem lR_bl (V : VV) (i b : Nat) : vbl (lR V i b) = vbl V := by show (gvB V b).2.2.1 0 = V.2.2.1 0; exact mkB_m _ _ _ _ _ (by omega)
set_option maxRecDepth 4096 in
theorem lR_rw (V : VV) (i b : Nat) : vrw (lR V i b) = vrw V := by show (gvB V b).2.2.1 1 = V.2.2.1 1; exact mkB_m _ _ _ _ _ (by omega)
set_option maxRecDepth 4096 in
theorem lR_fi (V : VV) (i b : Nat) : vfi (lR V i b) = vfi V := by show (gvB V b).2.2.1 3 = V.2.2.1 3; exact mkB_m _ _ _ _ _ (by omega)
set_option maxRecDepth 4096 in
theorem lR_dc (V : VV) (i b : Nat) : vdc (lR V i b) = vdc V := by show (gvB V b).2.2.1 4 = V.2.2.1 4; exact mkB_m _ _ _ _ _ (by omega)
set_option maxRecDepth 4096 in
theorem lR_es (V : VV) (i b : Nat) : ves (lR V i b) = ves V := by show (gvB V b).2.2.2 = V.2.2.2; exact mkB_l _ _ _ _ _
set_option maxRecDepth 4096 in
theorem lR_P (V : VV) (i b : Nat) : vP (lR V i b) = vP V := congrFun (lR_S V i b) 0
set_option maxRecDepth 4096 in
theorem lR_Q (V : VV) (i b : Nat) : vQ (lR V i b) = vQ V := congrFun (lR_S V i b) 1
set_option maxRecDepth 4096 in
theorem lR_G (V : VV) (i b : Nat) : vG (lR V i b) = vG V := congrFun (lR_S V i b) 2
set_option maxRecDepth 4096 in
theorem lR_I (V : VV) (i b : Nat) : vI (lR V i b) = vI V := congrFun (lR_S V i b) 3
set_option maxRecDepth 4096 in
theorem lD_S (V : VV) (i b : Nat) : (lD V i b).1 = V.1 := by show (gvB V b).1 = V.1; exact mkB_s _ _ _ _ _
set_option maxRecDepth 4096 in
theorem lD_ot (V : VV) (i b : Nat) (c : Nat) : vot (lD V i b) c = if c = b then 0 else vot V c := by
  by_cases h : c = b <;> simp [lD, gvB, wrF, vP, vQ, vG, vI, vot, voi, vok, vkd, vsz, vlk, vmn, vrn, vtw, vsg, vdb, vpar, vFB, vFI, vdat, vtm, vent, vdp, setA, setT, setS, setR, setE, va_up, up1, mkB_t', mkB_a, mkI_t', mkI_a, h]
set_option maxRecDepth 4096 in
theorem lD_oi (V : VV) (i b : Nat) : voi (lD V i b) = voi V := by show (gvB V b).2.1 1 = V.2.1 1; exact mkB_a _ _ _ _ _ (by omega) (by omega)
set_option maxRecDepth 4096 in
theorem lD_ok (V : VV) (i b : Nat) : vok (lD V i b) = vok V := by show (gvB V b).2.1 2 = V.2.1 2; exact mkB_a _ _ _ _ _ (by omega) (by omega)
set_option maxRecDepth 4096 in
theorem lD_kd (V : VV) (i b : Nat) : vkd (lD V i b) = vkd V := by show (gvB V b).2.1 3 = V.2.1 3; exact mkB_a _ _ _ _ _ (by omega) (by omega)
set_option maxRecDepth 4096 in
theorem lD_sz (V : VV) (i b : Nat) : vsz (lD V i b) = vsz V := by show (gvB V b).2.1 4 = V.2.1 4; exact mkB_a _ _ _ _ _ (by omega) (by omega)
set_option maxRecDepth 4096 in
theorem lD_lk (V : VV) (i b : Nat) : vlk (lD V i b) = vlk V := by show (gvB V b).2.1 5 = V.2.1 5; exact mkB_a _ _ _ _ _ (by omega) (by omega)
set_option maxRecDepth 4096 in
theorem lD_mn (V : VV) (i b : Nat) : vmn (lD V i b) = vmn V := by show (gvB V b).2.1 6 = V.2.1 6; exact mkB_a _ _ _ _ _ (by omega) (by omega)
set_option maxRecDepth 4096 in
theorem lD_rn (V : VV) (i b : Nat) : vrn (lD V i b) = vrn V := by show (gvB V b).2.1 7 = V.2.1 7; exact mkB_a _ _ _ _ _ (by omega) (by omega)
set_option maxRecDepth 4096 in
theorem lD_tw (V : VV) (i b : Nat) (c : Nat) : vtw (lD V i b) c = if c = i then vtw V i - 2 else vtw V c := by
  by_cases h : c = i <;> simp [lD, gvB, wrF, vP, vQ, vG, vI, vot, voi, vok, vkd, vsz, vlk, vmn, vrn, vtw, vsg, vdb, vpar, vFB, vFI, vdat, vtm, vent, vdp, setA, setT, setS, setR, setE, va_up, up1, mkB_t', mkB_a, mkI_t', mkI_a, h]
set_option maxRecDepth 4096 in
theorem lD_sg (V : VV) (i b : Nat) : vsg (lD V i b) = vsg V := by show (gvB V b).2.1 9 = V.2.1 9; exact mkB_a _ _ _ _ _ (by omega) (by omega)
set_option maxRecDepth 4096 in
theorem lD_db (V : VV) (i b : Nat) (c : Nat) : vdb (lD V i b) c = if c = i then 0 else vdb V c := by
  by_cases h : c = i <;> simp [lD, gvB, wrF, vP, vQ, vG, vI, vot, voi, vok, vkd, vsz, vlk, vmn, vrn, vtw, vsg, vdb, vpar, vFB, vFI, vdat, vtm, vent, vdp, setA, setT, setS, setR, setE, va_up, up1, mkB_t', mkB_a, mkI_t', mkI_a, h]
set_option maxRecDepth 4096 in
theorem lD_par (V : VV) (i b : Nat) : vpar (lD V i b) = vpar V := by show (gvB V b).2.1 11 = V.2.1 11; exact mkB_a _ _ _ _ _ (by omega) (by omega)
set_option maxRecDepth 4096 in
theorem lD_FI (V : VV) (i b : Nat) : vFI (lD V i b) = vFI V := by show (gvB V b).2.1 13 = V.2.1 13; exact mkB_a _ _ _ _ _ (by omega) (by omega)
set_option maxRecDepth 4096 in
theorem lD_dat (V : VV) (i b : Nat) : vdat (lD V i b) = vdat V := by show (gvB V b).2.1 15 = V.2.1 15; exact mkB_a _ _ _ _ _ (by omega) (by omega)
set_option maxRecDepth 4096 in
theorem lD_tm (V : VV) (i b : Nat) : vtm (lD V i b) = vtm V := by show (gvB V b).2.1 16 = V.2.1 16; exact mkB_a _ _ _ _ _ (by omega) (by omega)
set_option maxRecDepth 4096 in
theorem lD_ent (V : VV) (i b : Nat) : vent (lD V i b) = vent V := by show (gvB V b).2.1 17 = V.2.1 17; exact mkB_a _ _ _ _ _ (by omega) (by omega)
set_option maxRecDepth 4096 in
theorem lD_dp (V : VV) (i b : Nat) : vdp (lD V i b) = vdp V := by show (gvB V b).2.1 18 = V.2.1 18; exact mkB_a _ _ _ _ _ (by omega) (by omega)
set_option maxRecDepth 4096 in
theorem lD_bl (V : VV) (i b : Nat) : vbl (lD V i b) = vbl V := by show (gvB V b).2.2.1 0 = V.2.2.1 0; exact mkB_m _ _ _ _ _ (by omega)
set_option maxRecDepth 4096 in
theorem lD_rw (V : VV) (i b : Nat) : vrw (lD V i b) = vrw V := by show (gvB V b).2.2.1 1 = V.2.2.1 1; exact mkB_m _ _ _ _ _ (by omega)
set_option maxRecDepth 4096 in
theorem lD_fi (V : VV) (i b : Nat) : vfi (lD V i b) = vfi V := by show (gvB V b).2.2.1 3 = V.2.2.1 3; exact mkB_m _ _ _ _ _ (by omega)
set_option maxRecDepth 4096 in
theorem lD_dc (V : VV) (i b : Nat) : vdc (lD V i b) = vdc V := by show (gvB V b).2.2.1 4 = V.2.2.1 4; exact mkB_m _ _ _ _ _ (by omega)
set_option maxRecDepth 4096 in
theorem lD_es (V : VV) (i b : Nat) : ves (lD V i b) = ves V := by show (gvB V b).2.2.2 = V.2.2.2; exact mkB_l _ _ _ _ _
set_option maxRecDepth 4096 in
theorem lD_P (V : VV) (i b : Nat) : vP (lD V i b) = vP V := congrFun (lD_S V i b) 0
set_option maxRecDepth 4096 in
theorem lD_Q (V : VV) (i b : Nat) : vQ (lD V i b) = vQ V := congrFun (lD_S V i b) 1
set_option maxRecDepth 4096 in
theorem lD_G (V : VV) (i b : Nat) : vG (lD V i b) = vG V := congrFun (lD_S V i b) 2
set_option maxRecDepth 4096 in
theorem lD_I (V : VV) (i b : Nat) : vI (lD V i b) = vI V := congrFun (lD_S V i b) 3
