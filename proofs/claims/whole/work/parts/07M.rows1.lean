abbrev rMX12_inodeAt_0 : Room := { frames := 1, cells := 0, slots := 0, locals := 21 }
set_option maxHeartbeats 4000000 in
set_option maxRecDepth 100000 in
theorem wMX12_inodeAt_0_0 {p : Program} {l : Launch} {e : Env} {s : State} {m : MethodId} {args : Array Value} {below : List Frame} {meth : Method} {c : Code} {A : Nat → Prop} {K : KX} (F : fx_ p s m args meth c cX12_inodeAt 2 (some .int) RX12 wsX12_inodeAt) (x1 : Int32) (σ : XS) (o : (Int32 × XS)) (hf : fMX12_inodeAt_0_0 (kn K) x1 σ = some o) (H : Heap) (locs : List Loc) (ls : Array Slot) (hl : lv_has ls 2 [(0, .ref (ka K 0)), (1, .int x1)]) (hW : gw_ (kD K) vwCl (tyM K) (wM K) A s σ H locs) : W p l e rMX12_inodeAt_0 s m args below meth c H locs 0 0 (MQ below (gw_Qi (kD K) vwCl (tyM K) (wM K) A o) args s rMX12_inodeAt_0.cells rMX12_inodeAt_0.slots A) (F0 m 0 ls []) := by
  have hx := F.1
  have hb := F.2.1
  have hml := F.2.2.2.1
  have hown := F.2.2.2.2.1
  have hts := F.2.2.2.2.2.1
  have hG : ∀ x ∈ gT, x.before args s = true := fun x h => hts x (List.mem_cons_of_mem _ h)
  unfold fMX12_inodeAt_0_0 at hf
  refine lv_sipush (v := (1024 : Int32)) hx hb dX12_inodeAt_0 (by decide) ?_
  refine lv_aload_n hx hb dX12_inodeAt_3 rfl (lv_at hl 0 rfl) ?_
  refine lv_iload_n hx hb dX12_inodeAt_4 rfl (lv_at hl 1 rfl) ?_
  refine lv_iconst (v := (1 : Int32)) hx hb dX12_inodeAt_5 (by decide) ?_
  refine lv_isub hx hb dX12_inodeAt_6 ?_
  refine lv_aload_n hx hb dX12_inodeAt_7 rfl (lv_at hl 0 rfl) ?_
  refine gw_get (v := .int (σ.1 5)) F inc_X12 hW 0 10 10 (aM_0 K σ) rfl (by decide) (hG _ q_6_122) (fun _ h9 => h9) rfl dX12_inodeAt_8 ?_
  rcases Decidable.em ((σ.1 5) = 0) with c1 | c1
  · replace hf := (if_pos c1).symm.trans hf
    exact absurd hf (by simp)
  · replace hf := (if_neg c1).symm.trans hf
    refine lv_idiv hx hb dX12_inodeAt_11 c1 ?_
    obtain ⟨o2, h3, hf⟩ := gw_bind hf
    refine gw_Vi (As := [.int ((x1 - (1 : Int32)) / (σ.1 5))]) (mc' := 0) (ms' := 0) F hW (mMX12_begin_0 h3) (cwV 1 hts (gT_V q_7_37 q_7_39 qp_45 q_1_12 q_7_40) rfl rfl rfl hdX12_begin ⟨Nat.le_of_ble_eq_true rfl, Nat.le_of_ble_eq_true rfl⟩) 0 10 (aM_0 K σ) rfl rfl hl.1 rfl (Nat.le_of_ble_eq_true rfl) dX12_inodeAt_12 ⟨Nat.le_of_ble_eq_true rfl, Nat.le_of_ble_eq_true rfl⟩ rfl rfl (fun H locs hW => ?_)
    refine lv_iconst (v := (4 : Int32)) hx hb dX12_inodeAt_15 (by decide) ?_
    refine lv_iadd hx hb dX12_inodeAt_16 ?_
    refine lv_imul hx hb dX12_inodeAt_17 ?_
    refine lv_sipush (v := (128 : Int32)) hx hb dX12_inodeAt_18 (by decide) ?_
    refine lv_iload_n hx hb dX12_inodeAt_21 rfl (lv_at hl 1 rfl) ?_
    refine lv_iconst (v := (1 : Int32)) hx hb dX12_inodeAt_22 (by decide) ?_
    refine lv_isub hx hb dX12_inodeAt_23 ?_
    refine lv_aload_n hx hb dX12_inodeAt_24 rfl (lv_at hl 0 rfl) ?_
    refine gw_get (v := .int (o2.2.1 5)) F inc_X12 hW 0 10 10 (aM_0 K o2.2) rfl (by decide) (hG _ q_6_122) (fun _ h9 => h9) rfl dX12_inodeAt_25 ?_
    rcases Decidable.em ((o2.2.1 5) = 0) with c5 | c5
    · replace hf := (if_pos c5).symm.trans hf
      exact absurd hf (by simp)
    · replace hf := (if_neg c5).symm.trans hf
      refine lv_irem hx hb dX12_inodeAt_28 c5 ?_
      refine lv_imul hx hb dX12_inodeAt_29 ?_
      refine lv_iadd hx hb dX12_inodeAt_30 ?_
      exact gw_reti F hW hf dX12_inodeAt_31
set_option maxHeartbeats 4000000 in
set_option maxRecDepth 100000 in
theorem mMX12_inodeAt_0 {l : Launch} {K : KX} {σ : XS} {x1 : Int32} {o : (Int32 × XS)} (hf : fMX12_inodeAt_0 (kn K) x1 σ = some o) : gw_Mi l (kD K) vwCl (tyM K) (wM K) yX12_inodeAt wsX12_inodeAt rMX12_inodeAt_0 [.ref (ka K 0), .int x1] σ o := by
  intro sz
  refine gw_body (cc := cX12_inodeAt) (maxL := 2) (yret := some .int) (by decide +kernel) rfl ?_ (Nat.le_of_ble_eq_true rfl)
  intro p e s m below meth c F hsz hW ls hl
  exact wMX12_inodeAt_0_0 F x1 σ o hf s.heap [] ls hl hW
abbrev rMX12_showInode_0 : Room := { frames := 2, cells := 0, slots := 0, locals := 42 }
def PMX12_showInode_0_340 (p : Program) (l : Launch) (e : Env) (s : State) (m : MethodId) (args : Array Value) (below : List Frame) (meth : Method) (c : Code) (A : Nat → Prop) (K : KX) (t : (Int32 × Int32 × Int32 × Int32 × Int32 × Int32 × XS)) (o : XS) : Prop := ∀ (H : Heap) (locs : List Loc) (ls : Array Slot), lv_has ls 7 [(0, .ref (ka K 0)), (1, .int t.1), (2, .int t.2.1), (3, .int t.2.2.1), (4, .int t.2.2.2.1), (5, .int t.2.2.2.2.1), (6, .int t.2.2.2.2.2.1)] → gw_ (kD K) vwCl (tyM K) (wM K) A s t.2.2.2.2.2.2 H locs → W p l e rMX12_showInode_0 s m args below meth c H locs 0 0 (MQ below (gw_Qv (kD K) vwCl (tyM K) (wM K) A o) args s rMX12_showInode_0.cells rMX12_showInode_0.slots A) (F0 m 340 ls [])
def PMX12_showInode_0_169 (p : Program) (l : Launch) (e : Env) (s : State) (m : MethodId) (args : Array Value) (below : List Frame) (meth : Method) (c : Code) (A : Nat → Prop) (K : KX) (t : (Int32 × Int32 × Int32 × Int32 × Int32 × XS)) (o : XS) : Prop := ∀ (H : Heap) (locs : List Loc) (ls : Array Slot), lv_has ls 7 [(0, .ref (ka K 0)), (1, .int t.1), (2, .int t.2.1), (3, .int t.2.2.1), (4, .int t.2.2.2.1), (5, .int t.2.2.2.2.1)] → gw_ (kD K) vwCl (tyM K) (wM K) A s t.2.2.2.2.2 H locs → W p l e rMX12_showInode_0 s m args below meth c H locs 0 0 (MQ below (gw_Qv (kD K) vwCl (tyM K) (wM K) A o) args s rMX12_showInode_0.cells rMX12_showInode_0.slots A) (F0 m 169 ls [])
def PMX12_showInode_0_48 (p : Program) (l : Launch) (e : Env) (s : State) (m : MethodId) (args : Array Value) (below : List Frame) (meth : Method) (c : Code) (A : Nat → Prop) (K : KX) (t : (Int32 × Int32 × Int32 × XS)) (o : XS) : Prop := ∀ (H : Heap) (locs : List Loc) (ls : Array Slot), lv_has ls 7 [(0, .ref (ka K 0)), (1, .int t.1), (2, .int t.2.1), (3, .int t.2.2.1)] → gw_ (kD K) vwCl (tyM K) (wM K) A s t.2.2.2 H locs → W p l e rMX12_showInode_0 s m args below meth c H locs 0 0 (MQ below (gw_Qv (kD K) vwCl (tyM K) (wM K) A o) args s rMX12_showInode_0.cells rMX12_showInode_0.slots A) (F0 m 48 ls [])
set_option maxHeartbeats 4000000 in
set_option maxRecDepth 100000 in
theorem wMX12_showInode_0_340 {p : Program} {l : Launch} {e : Env} {s : State} {m : MethodId} {args : Array Value} {below : List Frame} {meth : Method} {c : Code} {A : Nat → Prop} {K : KX} (F : fx_ p s m args meth c cX12_showInode 7 none RX12 wsX12_showInode) {k169 : (Int32 × Int32 × Int32 × Int32 × Int32 × XS) → Option XS} (hk169 : ∀ t o, k169 t = some o → PMX12_showInode_0_169 p l e s m args below meth c A K t o) {k340 : (Int32 × Int32 × Int32 × Int32 × Int32 × Int32 × XS) → Option XS} (hk340 : ∀ t o, k340 t = some o → PMX12_showInode_0_340 p l e s m args below meth c A K t o) (x1 : Int32) (x2 : Int32) (x3 : Int32) (x4 : Int32) (x5 : Int32) (x6 : Int32) (σ : XS) (o : XS) (hf : fMX12_showInode_0_340 (kn K) k169 k340 x1 x2 x3 x4 x5 x6 σ = some o) (H : Heap) (locs : List Loc) (ls : Array Slot) (hl : lv_has ls 7 [(0, .ref (ka K 0)), (1, .int x1), (2, .int x2), (3, .int x3), (4, .int x4), (5, .int x5), (6, .int x6)]) (hW : gw_ (kD K) vwCl (tyM K) (wM K) A s σ H locs) : W p l e rMX12_showInode_0 s m args below meth c H locs 0 0 (MQ below (gw_Qv (kD K) vwCl (tyM K) (wM K) A o) args s rMX12_showInode_0.cells rMX12_showInode_0.slots A) (F0 m 340 ls []) := by
  have hx := F.1
  have hb := F.2.1
  have hml := F.2.2.2.1
  have hown := F.2.2.2.2.1
  have hts := F.2.2.2.2.2.1
  have hG : ∀ x ∈ gT, x.before args s = true := fun x h => hts x (List.mem_cons_of_mem _ h)
  unfold fMX12_showInode_0_340 at hf
  refine lv_iload hx hb dX12_showInode_340 (lv_at hl 6 rfl) ?_
  refine lv_sipush (v := (1024 : Int32)) hx hb dX12_showInode_342 (by decide) ?_
  refine lv_icmp_ge (tgt := 382) hx hb dX12_showInode_345 (by decide) (fun c43 => ?_) (fun c43 => ?_)
  · replace hf := (if_pos c43).symm.trans hf
    refine lv_aload_n hx hb dX12_showInode_382 rfl (lv_at hl 0 rfl) ?_
    refine gw_get (v := .ref (ka K 6)) F inc_X12 hW 0 10 15 (aM_0 K σ) rfl (by decide) (hG _ q_6_127) (fun _ h9 => h9) rfl dX12_showInode_383 ?_
    refine lv_iload hx hb dX12_showInode_386 (lv_at hl 4 rfl) ?_
    rcases Decidable.em (x4 < 0 ∨ 512 ≤ x4.toNatClampNeg) with c44 | c44
    · replace hf := (if_pos c44).symm.trans hf
      exact absurd hf (by simp)
    · replace hf := (if_neg c44).symm.trans hf
      refine gw_iald F hW 6 5 (aM_6 K σ) rfl c44 dX12_showInode_388 ?_
      refine lv_istore (lv' := [(4, .int (σ.2.1 5 x4.toNatClampNeg)), (0, .ref (ka K 0)), (1, .int x1), (2, .int x2), (3, .int x3), (5, .int x5), (6, .int x6)]) hx hb dX12_showInode_389 hl (by decide) rfl (fun ls hl => ?_)
      refine lv_iinc (v := (x5 + (1 : Int32))) (lv' := [(5, .int (x5 + (1 : Int32))), (4, .int (σ.2.1 5 x4.toNatClampNeg)), (0, .ref (ka K 0)), (1, .int x1), (2, .int x2), (3, .int x3), (6, .int x6)]) hx hb dX12_showInode_391 hl (k := 5) rfl rfl (by decide) rfl (fun ls hl => ?_)
      refine lv_goto (tgt := 169) hx hb dX12_showInode_394 (by decide) ?_
      exact hk169 _ _ hf _ _ _ (lv_sub hl [2, 3, 4, 5, 1, 0] rfl) hW
  · replace hf := (if_neg c43).symm.trans hf
    refine lv_aload_n hx hb dX12_showInode_348 rfl (lv_at hl 0 rfl) ?_
    refine gw_get (v := .ref (ka K 2)) F inc_X12 hW 0 10 3 (aM_0 K σ) rfl (by decide) (hG _ q_6_115) (fun _ h9 => h9) rfl dX12_showInode_349 ?_
    refine lv_sipush (v := (1024 : Int32)) hx hb dX12_showInode_352 (by decide) ?_
    refine lv_iload hx hb dX12_showInode_355 (lv_at hl 4 rfl) ?_
    refine lv_imul hx hb dX12_showInode_357 ?_
    refine lv_iload hx hb dX12_showInode_358 (lv_at hl 6 rfl) ?_
    refine lv_iadd hx hb dX12_showInode_360 ?_
    refine lv_aload_n hx hb dX12_showInode_361 rfl (lv_at hl 0 rfl) ?_
    refine gw_get (v := .ref (ka K 1)) F inc_X12 hW 0 10 2 (aM_0 K σ) rfl (by decide) (hG _ q_6_114) (fun _ h9 => h9) rfl dX12_showInode_362 ?_
    refine lv_sipush (v := (1024 : Int32)) hx hb dX12_showInode_365 (by decide) ?_
    refine lv_iload hx hb dX12_showInode_368 (lv_at hl 4 rfl) ?_
    refine lv_imul hx hb dX12_showInode_370 ?_
    refine lv_iload hx hb dX12_showInode_371 (lv_at hl 6 rfl) ?_
    refine lv_iadd hx hb dX12_showInode_373 ?_
    rcases Decidable.em ((((1024 : Int32) * x4) + x6) < 0 ∨ 524288 ≤ (((1024 : Int32) * x4) + x6).toNatClampNeg) with c45 | c45
    · replace hf := (if_pos c45).symm.trans hf
      exact absurd hf (by simp)
    · replace hf := (if_neg c45).symm.trans hf
      refine gw_bald F hW 1 0 (aM_1 K σ) rfl c45 dX12_showInode_374 ?_
      rcases Decidable.em ((((1024 : Int32) * x4) + x6) < 0 ∨ 524288 ≤ (((1024 : Int32) * x4) + x6).toNatClampNeg) with c46 | c46
      · replace hf := (if_pos c46).symm.trans hf
        exact absurd hf (by simp)
      · replace hf := (if_neg c46).symm.trans hf
        refine gw_bast (σ' := (stA σ 1 (((1024 : Int32) * x4) + x6).toNatClampNeg (vp_nar .byte (σ.2.1 0 (((1024 : Int32) * x4) + x6).toNatClampNeg)))) F hW 2 1 (aM_2 K σ) rfl c46 dX12_showInode_375 (sAM_1 _ _ _) (fun H locs hW => ?_)
        refine lv_iinc (v := (x6 + (1 : Int32))) (lv' := [(6, .int (x6 + (1 : Int32))), (0, .ref (ka K 0)), (1, .int x1), (2, .int x2), (3, .int x3), (4, .int x4), (5, .int x5)]) hx hb dX12_showInode_376 hl (k := 6) rfl rfl (by decide) rfl (fun ls hl => ?_)
        refine lv_goto (tgt := 340) hx hb dX12_showInode_379 (by decide) ?_
        exact hk340 _ _ hf _ _ _ (lv_sub hl [1, 2, 3, 4, 5, 6, 0] rfl) hW
set_option maxHeartbeats 4000000 in
set_option maxRecDepth 100000 in
theorem wMX12_showInode_0_337 {p : Program} {l : Launch} {e : Env} {s : State} {m : MethodId} {args : Array Value} {below : List Frame} {meth : Method} {c : Code} {A : Nat → Prop} {K : KX} (F : fx_ p s m args meth c cX12_showInode 7 none RX12 wsX12_showInode) {k169 : (Int32 × Int32 × Int32 × Int32 × Int32 × XS) → Option XS} (hk169 : ∀ t o, k169 t = some o → PMX12_showInode_0_169 p l e s m args below meth c A K t o) (x1 : Int32) (x2 : Int32) (x3 : Int32) (x4 : Int32) (x5 : Int32) (σ : XS) (o : XS) (hf : fMX12_showInode_0_337 (kn K) k169 x1 x2 x3 x4 x5 σ = some o) (H : Heap) (locs : List Loc) (ls : Array Slot) (hl : lv_has ls 7 [(0, .ref (ka K 0)), (1, .int x1), (2, .int x2), (3, .int x3), (4, .int x4), (5, .int x5)]) (hW : gw_ (kD K) vwCl (tyM K) (wM K) A s σ H locs) : W p l e rMX12_showInode_0 s m args below meth c H locs 0 0 (MQ below (gw_Qv (kD K) vwCl (tyM K) (wM K) A o) args s rMX12_showInode_0.cells rMX12_showInode_0.slots A) (F0 m 337 ls []) := by
  have hx := F.1
  have hb := F.2.1
  have hml := F.2.2.2.1
  have hown := F.2.2.2.2.1
  have hts := F.2.2.2.2.2.1
  have hG : ∀ x ∈ gT, x.before args s = true := fun x h => hts x (List.mem_cons_of_mem _ h)
  unfold fMX12_showInode_0_337 at hf
  refine lv_iconst (v := (0 : Int32)) hx hb dX12_showInode_337 (by decide) ?_
  refine lv_istore (lv' := [(6, .int (0 : Int32)), (0, .ref (ka K 0)), (1, .int x1), (2, .int x2), (3, .int x3), (4, .int x4), (5, .int x5)]) hx hb dX12_showInode_338 hl (by decide) rfl (fun ls hl => ?_)
  exact lfix_ind (P := PMX12_showInode_0_340 p l e s m args below meth c A K) (fun k340 hk340 t o hf => wMX12_showInode_0_340 F hk169 hk340 t.1 t.2.1 t.2.2.1 t.2.2.2.1 t.2.2.2.2.1 t.2.2.2.2.2.1 t.2.2.2.2.2.2 o hf) FU _ _ hf _ _ _ (lv_sub hl [1, 2, 3, 4, 5, 6, 0] rfl) hW
set_option maxHeartbeats 4000000 in
set_option maxRecDepth 100000 in
theorem wMX12_showInode_0_311 {p : Program} {l : Launch} {e : Env} {s : State} {m : MethodId} {args : Array Value} {below : List Frame} {meth : Method} {c : Code} {A : Nat → Prop} {K : KX} (F : fx_ p s m args meth c cX12_showInode 7 none RX12 wsX12_showInode) {k169 : (Int32 × Int32 × Int32 × Int32 × Int32 × XS) → Option XS} (hk169 : ∀ t o, k169 t = some o → PMX12_showInode_0_169 p l e s m args below meth c A K t o) (x1 : Int32) (x2 : Int32) (x3 : Int32) (x4 : Int32) (x5 : Int32) (σ : XS) (o : XS) (hf : fMX12_showInode_0_311 (kn K) k169 x1 x2 x3 x4 x5 σ = some o) (H : Heap) (locs : List Loc) (ls : Array Slot) (hl : lv_has ls 7 [(0, .ref (ka K 0)), (1, .int x1), (2, .int x2), (3, .int x3), (4, .int x4), (5, .int x5)]) (hW : gw_ (kD K) vwCl (tyM K) (wM K) A s σ H locs) : W p l e rMX12_showInode_0 s m args below meth c H locs 0 0 (MQ below (gw_Qv (kD K) vwCl (tyM K) (wM K) A o) args s rMX12_showInode_0.cells rMX12_showInode_0.slots A) (F0 m 311 ls []) := by
  have hx := F.1
  have hb := F.2.1
  have hml := F.2.2.2.1
  have hown := F.2.2.2.2.1
  have hts := F.2.2.2.2.2.1
  have hG : ∀ x ∈ gT, x.before args s = true := fun x h => hts x (List.mem_cons_of_mem _ h)
  unfold fMX12_showInode_0_311 at hf
  refine lv_aload_n hx hb dX12_showInode_311 rfl (lv_at hl 0 rfl) ?_
  refine lv_sipush (v := (1024 : Int32)) hx hb dX12_showInode_312 (by decide) ?_
  refine lv_iload_n hx hb dX12_showInode_315 rfl (lv_at hl 3 rfl) ?_
  refine lv_imul hx hb dX12_showInode_316 ?_
  refine lv_iload hx hb dX12_showInode_317 (lv_at hl 5 rfl) ?_
  refine lv_sipush (v := (268 : Int32)) hx hb dX12_showInode_319 (by decide) ?_
  refine lv_isub hx hb dX12_showInode_322 ?_
  refine lv_sipush (v := (256 : Int32)) hx hb dX12_showInode_323 (by decide) ?_
  refine lv_irem hx hb dX12_showInode_326 (by decide) ?_
  refine lv_iconst (v := (4 : Int32)) hx hb dX12_showInode_327 (by decide) ?_
  refine lv_imul hx hb dX12_showInode_328 ?_
  refine lv_iadd hx hb dX12_showInode_329 ?_
  refine lv_iconst (v := (4 : Int32)) hx hb dX12_showInode_330 (by decide) ?_
  refine lv_iload hx hb dX12_showInode_331 (lv_at hl 4 rfl) ?_
  refine lv_i2l (v := x4.toInt64) hx hb dX12_showInode_333 rfl ?_
  obtain ⟨o40, h41, hf⟩ := gw_bind hf
  refine gw_Vv (As := [.int (((1024 : Int32) * x3) + (((x5 - (268 : Int32)) - (x5 - (268 : Int32)) / (256 : Int32) * (256 : Int32)) * (4 : Int32))), .int (4 : Int32), .long x4.toInt64]) (mc' := 0) (ms' := 0) F hW (mMX12_put_0 h41) (cwV 3 hts (gT_V q_7_45 q_7_47 qp_47 q_1_12 q_7_48) rfl rfl rfl hdX12_put ⟨Nat.le_of_ble_eq_true rfl, Nat.le_of_ble_eq_true rfl⟩) 0 10 (aM_0 K σ) rfl rfl hl.1 rfl (Nat.le_of_ble_eq_true rfl) dX12_showInode_334 ⟨Nat.le_of_ble_eq_true rfl, Nat.le_of_ble_eq_true rfl⟩ rfl rfl (fun H locs hW => ?_)
  exact wMX12_showInode_0_337 F hk169 x1 x2 x3 x4 x5 _ _ hf _ _ _ (lv_sub hl [0, 1, 2, 3, 4, 5] rfl) hW
set_option maxHeartbeats 4000000 in
set_option maxRecDepth 100000 in
theorem wMX12_showInode_0_280 {p : Program} {l : Launch} {e : Env} {s : State} {m : MethodId} {args : Array Value} {below : List Frame} {meth : Method} {c : Code} {A : Nat → Prop} {K : KX} (F : fx_ p s m args meth c cX12_showInode 7 none RX12 wsX12_showInode) {k169 : (Int32 × Int32 × Int32 × Int32 × Int32 × XS) → Option XS} (hk169 : ∀ t o, k169 t = some o → PMX12_showInode_0_169 p l e s m args below meth c A K t o) (x1 : Int32) (x2 : Int32) (x4 : Int32) (x5 : Int32) (y0 : Int32) (σ : XS) (o : XS) (hf : fMX12_showInode_0_280 (kn K) k169 x1 x2 x4 x5 y0 σ = some o) (H : Heap) (locs : List Loc) (ls : Array Slot) (hl : lv_has ls 7 [(0, .ref (ka K 0)), (1, .int x1), (2, .int x2), (4, .int x4), (5, .int x5)]) (hW : gw_ (kD K) vwCl (tyM K) (wM K) A s σ H locs) : W p l e rMX12_showInode_0 s m args below meth c H locs 0 0 (MQ below (gw_Qv (kD K) vwCl (tyM K) (wM K) A o) args s rMX12_showInode_0.cells rMX12_showInode_0.slots A) (F0 m 280 ls [.int y0]) := by
  have hx := F.1
  have hb := F.2.1
  have hml := F.2.2.2.1
  have hown := F.2.2.2.2.1
  have hts := F.2.2.2.2.2.1
  have hG : ∀ x ∈ gT, x.before args s = true := fun x h => hts x (List.mem_cons_of_mem _ h)
  unfold fMX12_showInode_0_280 at hf
  refine lv_istore_n (lv' := [(3, .int y0), (0, .ref (ka K 0)), (1, .int x1), (2, .int x2), (4, .int x4), (5, .int x5)]) hx hb dX12_showInode_280 rfl hl (by decide) rfl (fun ls hl => ?_)
  refine lv_aload_n hx hb dX12_showInode_281 rfl (lv_at hl 1 rfl) ?_
  refine lv_sipush (v := (1024 : Int32)) hx hb dX12_showInode_282 (by decide) ?_
  refine lv_aload_n hx hb dX12_showInode_285 rfl (lv_at hl 1 rfl) ?_
  refine gw_get (v := .ref (ka K 14)) F inc_X12 hW 0 10 23 (aM_0 K σ) rfl (by decide) (hG _ q_6_135) (fun _ h9 => h9) rfl dX12_showInode_286 ?_
  refine lv_iload_n hx hb dX12_showInode_289 rfl (lv_at hl 2 rfl) ?_
  rcases Decidable.em (x1 < 0 ∨ 2100 ≤ x1.toNatClampNeg) with c49 | c49
  · replace hf := (if_pos c49).symm.trans hf
    exact absurd hf (by simp)
  · replace hf := (if_neg c49).symm.trans hf
    refine gw_iald F hW 14 13 (aM_14 K σ) rfl c49 dX12_showInode_290 ?_
    refine lv_imul hx hb dX12_showInode_291 ?_
    refine lv_iload hx hb dX12_showInode_292 (lv_at hl 5 rfl) ?_
    refine lv_sipush (v := (268 : Int32)) hx hb dX12_showInode_294 (by decide) ?_
    refine lv_isub hx hb dX12_showInode_297 ?_
    refine lv_sipush (v := (256 : Int32)) hx hb dX12_showInode_298 (by decide) ?_
    refine lv_idiv hx hb dX12_showInode_301 (by decide) ?_
    refine lv_iconst (v := (4 : Int32)) hx hb dX12_showInode_302 (by decide) ?_
    refine lv_imul hx hb dX12_showInode_303 ?_
    refine lv_iadd hx hb dX12_showInode_304 ?_
    refine lv_iconst (v := (4 : Int32)) hx hb dX12_showInode_305 (by decide) ?_
    refine lv_iload_n hx hb dX12_showInode_306 rfl (lv_at hl 0 rfl) ?_
    refine lv_i2l (v := y0.toInt64) hx hb dX12_showInode_307 rfl ?_
    obtain ⟨o50, h51, hf⟩ := gw_bind hf
    refine gw_Vv (As := [.int (((1024 : Int32) * (σ.2.1 13 x1.toNatClampNeg)) + (((x5 - (268 : Int32)) / (256 : Int32)) * (4 : Int32))), .int (4 : Int32), .long y0.toInt64]) (mc' := 0) (ms' := 0) F hW (mMX12_put_0 h51) (cwV 3 hts (gT_V q_7_45 q_7_47 qp_47 q_1_12 q_7_48) rfl rfl rfl hdX12_put ⟨Nat.le_of_ble_eq_true rfl, Nat.le_of_ble_eq_true rfl⟩) 0 10 (aM_0 K σ) rfl rfl hl.1 rfl (Nat.le_of_ble_eq_true rfl) dX12_showInode_308 ⟨Nat.le_of_ble_eq_true rfl, Nat.le_of_ble_eq_true rfl⟩ rfl rfl (fun H locs hW => ?_)
    exact wMX12_showInode_0_311 F hk169 x1 x2 y0 x4 x5 _ _ hf _ _ _ (lv_sub hl [1, 2, 3, 0, 4, 5] rfl) hW
set_option maxHeartbeats 4000000 in
set_option maxRecDepth 100000 in
theorem wMX12_showInode_0_169 {p : Program} {l : Launch} {e : Env} {s : State} {m : MethodId} {args : Array Value} {below : List Frame} {meth : Method} {c : Code} {A : Nat → Prop} {K : KX} (F : fx_ p s m args meth c cX12_showInode 7 none RX12 wsX12_showInode) {k169 : (Int32 × Int32 × Int32 × Int32 × Int32 × XS) → Option XS} (hk169 : ∀ t o, k169 t = some o → PMX12_showInode_0_169 p l e s m args below meth c A K t o) (x1 : Int32) (x2 : Int32) (x3 : Int32) (x4 : Int32) (x5 : Int32) (σ : XS) (o : XS) (hf : fMX12_showInode_0_169 (kn K) k169 x1 x2 x3 x4 x5 σ = some o) (H : Heap) (locs : List Loc) (ls : Array Slot) (hl : lv_has ls 7 [(0, .ref (ka K 0)), (1, .int x1), (2, .int x2), (3, .int x3), (4, .int x4), (5, .int x5)]) (hW : gw_ (kD K) vwCl (tyM K) (wM K) A s σ H locs) : W p l e rMX12_showInode_0 s m args below meth c H locs 0 0 (MQ below (gw_Qv (kD K) vwCl (tyM K) (wM K) A o) args s rMX12_showInode_0.cells rMX12_showInode_0.slots A) (F0 m 169 ls []) := by
  have hx := F.1
  have hb := F.2.1
  have hml := F.2.2.2.1
  have hown := F.2.2.2.2.1
  have hts := F.2.2.2.2.2.1
  have hG : ∀ x ∈ gT, x.before args s = true := fun x h => hts x (List.mem_cons_of_mem _ h)
  unfold fMX12_showInode_0_169 at hf
  refine lv_iload hx hb dX12_showInode_169 (lv_at hl 5 rfl) ?_
  refine lv_aload_n hx hb dX12_showInode_171 rfl (lv_at hl 0 rfl) ?_
  refine gw_get (v := .ref (ka K 10)) F inc_X12 hW 0 10 19 (aM_0 K σ) rfl (by decide) (hG _ q_6_131) (fun _ h9 => h9) rfl dX12_showInode_172 ?_
  refine lv_iload_n hx hb dX12_showInode_175 rfl (lv_at hl 1 rfl) ?_
  rcases Decidable.em (x1 < 0 ∨ 2100 ≤ x1.toNatClampNeg) with c35 | c35
  · replace hf := (if_pos c35).symm.trans hf
    exact absurd hf (by simp)
  · replace hf := (if_neg c35).symm.trans hf
    refine gw_iald F hW 10 9 (aM_10 K σ) rfl c35 dX12_showInode_176 ?_
    refine lv_icmp_ge (tgt := 397) hx hb dX12_showInode_177 (by decide) (fun c36 => ?_) (fun c36 => ?_)
    · replace hf := (if_pos c36).symm.trans hf
      exact gw_retv F hW hf dX12_showInode_397
    · replace hf := (if_neg c36).symm.trans hf
      refine lv_iload hx hb dX12_showInode_180 (lv_at hl 5 rfl) ?_
      refine lv_bipush (v := (12 : Int32)) hx hb dX12_showInode_182 (by decide) ?_
      refine lv_icmp_ge (tgt := 207) hx hb dX12_showInode_184 (by decide) (fun c37 => ?_) (fun c37 => ?_)
      · replace hf := (if_pos c37).symm.trans hf
        refine lv_iload hx hb dX12_showInode_207 (lv_at hl 5 rfl) ?_
        refine lv_sipush (v := (268 : Int32)) hx hb dX12_showInode_209 (by decide) ?_
        refine lv_icmp_ge (tgt := 244) hx hb dX12_showInode_212 (by decide) (fun c38 => ?_) (fun c38 => ?_)
        · replace hf := (if_pos c38).symm.trans hf
          refine lv_iload hx hb dX12_showInode_244 (lv_at hl 5 rfl) ?_
          refine lv_sipush (v := (268 : Int32)) hx hb dX12_showInode_246 (by decide) ?_
          refine lv_isub hx hb dX12_showInode_249 ?_
          refine lv_sipush (v := (256 : Int32)) hx hb dX12_showInode_250 (by decide) ?_
          refine lv_irem hx hb dX12_showInode_253 (by decide) ?_
          refine lv_if_ne (tgt := 311) hx hb dX12_showInode_254 (by decide) (fun c39 => ?_) (fun c39 => ?_)
          · replace hf := (if_neg c39).symm.trans hf
            exact wMX12_showInode_0_311 F hk169 x1 x2 x3 x4 x5 _ _ hf _ _ _ (lv_sub hl [0, 1, 2, 3, 4, 5] rfl) hW
          · replace hf := (if_pos c39).symm.trans hf
            refine lv_iload hx hb dX12_showInode_257 (lv_at hl 5 rfl) ?_
            refine lv_sipush (v := (268 : Int32)) hx hb dX12_showInode_259 (by decide) ?_
            refine lv_icmp_ne (tgt := 274) hx hb dX12_showInode_262 (by decide) (fun c47 => ?_) (fun c47 => ?_)
            · replace hf := (if_neg c47).symm.trans hf
              refine lv_aload_n hx hb dX12_showInode_274 rfl (lv_at hl 0 rfl) ?_
              refine gw_get (v := .ref (ka K 6)) F inc_X12 hW 0 10 15 (aM_0 K σ) rfl (by decide) (hG _ q_6_127) (fun _ h9 => h9) rfl dX12_showInode_275 ?_
              refine lv_iload_n hx hb dX12_showInode_278 rfl (lv_at hl 3 rfl) ?_
              rcases Decidable.em (x3 < 0 ∨ 512 ≤ x3.toNatClampNeg) with c48 | c48
              · replace hf := (if_pos c48).symm.trans hf
                exact absurd hf (by simp)
              · replace hf := (if_neg c48).symm.trans hf
                refine gw_iald F hW 6 5 (aM_6 K σ) rfl c48 dX12_showInode_279 ?_
                exact wMX12_showInode_0_280 F hk169 x1 x2 x4 x5 (σ.2.1 5 x3.toNatClampNeg) _ _ hf _ _ _ (lv_sub hl [0, 1, 2, 4, 5] rfl) hW
            · replace hf := (if_pos c47).symm.trans hf
              refine lv_aload_n hx hb dX12_showInode_265 rfl (lv_at hl 0 rfl) ?_
              refine gw_get (v := .ref (ka K 15)) F inc_X12 hW 0 10 24 (aM_0 K σ) rfl (by decide) (hG _ q_6_136) (fun _ h9 => h9) rfl dX12_showInode_266 ?_
              refine lv_iload_n hx hb dX12_showInode_269 rfl (lv_at hl 1 rfl) ?_
              rcases Decidable.em (x1 < 0 ∨ 2100 ≤ x1.toNatClampNeg) with c53 | c53
              · replace hf := (if_pos c53).symm.trans hf
                exact absurd hf (by simp)
              · replace hf := (if_neg c53).symm.trans hf
                refine gw_iald F hW 15 14 (aM_15 K σ) rfl c53 dX12_showInode_270 ?_
                refine lv_goto (tgt := 280) hx hb dX12_showInode_271 (by decide) ?_
                exact wMX12_showInode_0_280 F hk169 x1 x2 x4 x5 (σ.2.1 14 x1.toNatClampNeg) _ _ hf _ _ _ (lv_sub hl [0, 1, 2, 4, 5] rfl) hW
        · replace hf := (if_neg c38).symm.trans hf
          refine lv_aload_n hx hb dX12_showInode_215 rfl (lv_at hl 0 rfl) ?_
          refine lv_sipush (v := (1024 : Int32)) hx hb dX12_showInode_216 (by decide) ?_
          refine lv_aload_n hx hb dX12_showInode_219 rfl (lv_at hl 0 rfl) ?_
          refine gw_get (v := .ref (ka K 13)) F inc_X12 hW 0 10 22 (aM_0 K σ) rfl (by decide) (hG _ q_6_134) (fun _ h9 => h9) rfl dX12_showInode_220 ?_
          refine lv_iload_n hx hb dX12_showInode_223 rfl (lv_at hl 1 rfl) ?_
          rcases Decidable.em (x1 < 0 ∨ 2100 ≤ x1.toNatClampNeg) with c54 | c54
          · replace hf := (if_pos c54).symm.trans hf
            exact absurd hf (by simp)
          · replace hf := (if_neg c54).symm.trans hf
            refine gw_iald F hW 13 12 (aM_13 K σ) rfl c54 dX12_showInode_224 ?_
            refine lv_imul hx hb dX12_showInode_225 ?_
            refine lv_iconst (v := (4 : Int32)) hx hb dX12_showInode_226 (by decide) ?_
            refine lv_iload hx hb dX12_showInode_227 (lv_at hl 5 rfl) ?_
            refine lv_bipush (v := (12 : Int32)) hx hb dX12_showInode_229 (by decide) ?_
            refine lv_isub hx hb dX12_showInode_231 ?_
            refine lv_imul hx hb dX12_showInode_232 ?_
            refine lv_iadd hx hb dX12_showInode_233 ?_
            refine lv_iconst (v := (4 : Int32)) hx hb dX12_showInode_234 (by decide) ?_
            refine lv_iload hx hb dX12_showInode_235 (lv_at hl 4 rfl) ?_
            refine lv_i2l (v := x4.toInt64) hx hb dX12_showInode_237 rfl ?_
            obtain ⟨o55, h56, hf⟩ := gw_bind hf
            refine gw_Vv (As := [.int (((1024 : Int32) * (σ.2.1 12 x1.toNatClampNeg)) + ((4 : Int32) * (x5 - (12 : Int32)))), .int (4 : Int32), .long x4.toInt64]) (mc' := 0) (ms' := 0) F hW (mMX12_put_0 h56) (cwV 3 hts (gT_V q_7_45 q_7_47 qp_47 q_1_12 q_7_48) rfl rfl rfl hdX12_put ⟨Nat.le_of_ble_eq_true rfl, Nat.le_of_ble_eq_true rfl⟩) 0 10 (aM_0 K σ) rfl rfl hl.1 rfl (Nat.le_of_ble_eq_true rfl) dX12_showInode_238 ⟨Nat.le_of_ble_eq_true rfl, Nat.le_of_ble_eq_true rfl⟩ rfl rfl (fun H locs hW => ?_)
            refine lv_goto (tgt := 337) hx hb dX12_showInode_241 (by decide) ?_
            exact wMX12_showInode_0_337 F hk169 x1 x2 x3 x4 x5 _ _ hf _ _ _ (lv_sub hl [0, 1, 2, 3, 4, 5] rfl) hW
      · replace hf := (if_neg c37).symm.trans hf
        refine lv_aload_n hx hb dX12_showInode_187 rfl (lv_at hl 0 rfl) ?_
        refine lv_iload_n hx hb dX12_showInode_188 rfl (lv_at hl 2 rfl) ?_
        refine lv_bipush (v := (40 : Int32)) hx hb dX12_showInode_189 (by decide) ?_
        refine lv_iadd hx hb dX12_showInode_191 ?_
        refine lv_iconst (v := (4 : Int32)) hx hb dX12_showInode_192 (by decide) ?_
        refine lv_iload hx hb dX12_showInode_193 (lv_at hl 5 rfl) ?_
        refine lv_imul hx hb dX12_showInode_195 ?_
        refine lv_iadd hx hb dX12_showInode_196 ?_
        refine lv_iconst (v := (4 : Int32)) hx hb dX12_showInode_197 (by decide) ?_
        refine lv_iload hx hb dX12_showInode_198 (lv_at hl 4 rfl) ?_
        refine lv_i2l (v := x4.toInt64) hx hb dX12_showInode_200 rfl ?_
        obtain ⟨o58, h59, hf⟩ := gw_bind hf
        refine gw_Vv (As := [.int ((x2 + (40 : Int32)) + ((4 : Int32) * x5)), .int (4 : Int32), .long x4.toInt64]) (mc' := 0) (ms' := 0) F hW (mMX12_put_0 h59) (cwV 3 hts (gT_V q_7_45 q_7_47 qp_47 q_1_12 q_7_48) rfl rfl rfl hdX12_put ⟨Nat.le_of_ble_eq_true rfl, Nat.le_of_ble_eq_true rfl⟩) 0 10 (aM_0 K σ) rfl rfl hl.1 rfl (Nat.le_of_ble_eq_true rfl) dX12_showInode_201 ⟨Nat.le_of_ble_eq_true rfl, Nat.le_of_ble_eq_true rfl⟩ rfl rfl (fun H locs hW => ?_)
        refine lv_goto (tgt := 337) hx hb dX12_showInode_204 (by decide) ?_
        exact wMX12_showInode_0_337 F hk169 x1 x2 x3 x4 x5 _ _ hf _ _ _ (lv_sub hl [0, 1, 2, 3, 4, 5] rfl) hW
set_option maxHeartbeats 4000000 in
set_option maxRecDepth 100000 in
theorem wMX12_showInode_0_48 {p : Program} {l : Launch} {e : Env} {s : State} {m : MethodId} {args : Array Value} {below : List Frame} {meth : Method} {c : Code} {A : Nat → Prop} {K : KX} (F : fx_ p s m args meth c cX12_showInode 7 none RX12 wsX12_showInode) {k48 : (Int32 × Int32 × Int32 × XS) → Option XS} (hk48 : ∀ t o, k48 t = some o → PMX12_showInode_0_48 p l e s m args below meth c A K t o) (x1 : Int32) (x2 : Int32) (x3 : Int32) (σ : XS) (o : XS) (hf : fMX12_showInode_0_48 (kn K) k48 x1 x2 x3 σ = some o) (H : Heap) (locs : List Loc) (ls : Array Slot) (hl : lv_has ls 7 [(0, .ref (ka K 0)), (1, .int x1), (2, .int x2), (3, .int x3)]) (hW : gw_ (kD K) vwCl (tyM K) (wM K) A s σ H locs) : W p l e rMX12_showInode_0 s m args below meth c H locs 0 0 (MQ below (gw_Qv (kD K) vwCl (tyM K) (wM K) A o) args s rMX12_showInode_0.cells rMX12_showInode_0.slots A) (F0 m 48 ls []) := by
  have hx := F.1
  have hb := F.2.1
  have hml := F.2.2.2.1
  have hown := F.2.2.2.2.1
  have hts := F.2.2.2.2.2.1
  have hG : ∀ x ∈ gT, x.before args s = true := fun x h => hts x (List.mem_cons_of_mem _ h)
  unfold fMX12_showInode_0_48 at hf
  refine lv_iload_n hx hb dX12_showInode_48 rfl (lv_at hl 3 rfl) ?_
  refine lv_iconst (v := (3 : Int32)) hx hb dX12_showInode_49 (by decide) ?_
  refine lv_icmp_ge (tgt := 82) hx hb dX12_showInode_50 (by decide) (fun c13 => ?_) (fun c13 => ?_)
  · replace hf := (if_pos c13).symm.trans hf
    refine lv_aload_n hx hb dX12_showInode_82 rfl (lv_at hl 0 rfl) ?_
    refine lv_iload_n hx hb dX12_showInode_83 rfl (lv_at hl 2 rfl) ?_
    refine lv_bipush (v := (26 : Int32)) hx hb dX12_showInode_84 (by decide) ?_
    refine lv_iadd hx hb dX12_showInode_86 ?_
    refine lv_iconst (v := (2 : Int32)) hx hb dX12_showInode_87 (by decide) ?_
    refine lv_aload_n hx hb dX12_showInode_88 rfl (lv_at hl 0 rfl) ?_
    refine gw_get (v := .ref (ka K 9)) F inc_X12 hW 0 10 18 (aM_0 K σ) rfl (by decide) (hG _ q_6_130) (fun _ h9 => h9) rfl dX12_showInode_89 ?_
    refine lv_iload_n hx hb dX12_showInode_92 rfl (lv_at hl 1 rfl) ?_
    rcases Decidable.em (x1 < 0 ∨ 2100 ≤ x1.toNatClampNeg) with c14 | c14
    · replace hf := (if_pos c14).symm.trans hf
      exact absurd hf (by simp)
    · replace hf := (if_neg c14).symm.trans hf
      refine gw_iald F hW 9 8 (aM_9 K σ) rfl c14 dX12_showInode_93 ?_
      refine lv_i2l (v := (σ.2.1 8 x1.toNatClampNeg).toInt64) hx hb dX12_showInode_94 rfl ?_
      obtain ⟨o15, h16, hf⟩ := gw_bind hf
      refine gw_Vv (As := [.int (x2 + (26 : Int32)), .int (2 : Int32), .long ((σ.2.1 8 x1.toNatClampNeg).toInt64)]) (mc' := 0) (ms' := 0) F hW (mMX12_put_0 h16) (cwV 3 hts (gT_V q_7_45 q_7_47 qp_47 q_1_12 q_7_48) rfl rfl rfl hdX12_put ⟨Nat.le_of_ble_eq_true rfl, Nat.le_of_ble_eq_true rfl⟩) 0 10 (aM_0 K σ) rfl rfl hl.1 rfl (Nat.le_of_ble_eq_true rfl) dX12_showInode_95 ⟨Nat.le_of_ble_eq_true rfl, Nat.le_of_ble_eq_true rfl⟩ rfl rfl (fun H locs hW => ?_)
      refine lv_aload_n hx hb dX12_showInode_98 rfl (lv_at hl 0 rfl) ?_
      refine lv_iload_n hx hb dX12_showInode_99 rfl (lv_at hl 2 rfl) ?_
      refine lv_bipush (v := (28 : Int32)) hx hb dX12_showInode_100 (by decide) ?_
      refine lv_iadd hx hb dX12_showInode_102 ?_
      refine lv_iconst (v := (4 : Int32)) hx hb dX12_showInode_103 (by decide) ?_
      refine lv_iconst (v := (2 : Int32)) hx hb dX12_showInode_104 (by decide) ?_
      refine lv_aload_n hx hb dX12_showInode_105 rfl (lv_at hl 0 rfl) ?_
      refine gw_get (v := .ref (ka K 10)) F inc_X12 hW 0 10 19 (aM_0 K o15) rfl (by decide) (hG _ q_6_131) (fun _ h9 => h9) rfl dX12_showInode_106 ?_
      refine lv_iload_n hx hb dX12_showInode_109 rfl (lv_at hl 1 rfl) ?_
      rcases Decidable.em (x1 < 0 ∨ 2100 ≤ x1.toNatClampNeg) with c18 | c18
      · replace hf := (if_pos c18).symm.trans hf
        exact absurd hf (by simp)
      · replace hf := (if_neg c18).symm.trans hf
        refine gw_iald F hW 10 9 (aM_10 K o15) rfl c18 dX12_showInode_110 ?_
        obtain ⟨o19, h20, hf⟩ := gw_bind hf
        refine gw_Si (As := [.int (o15.2.1 9 x1.toNatClampNeg)]) (mc' := 0) (ms' := 0) F hW (mMX12_all h20) (va_cwS 1 hts (gT_S q_7_68 q_7_69 q_1_12 q_7_70) rfl rfl rfl hdX12_all.2 ⟨Nat.le_of_ble_eq_true rfl, Nat.le_of_ble_eq_true rfl⟩) rfl hl.1 rfl (Nat.le_of_ble_eq_true rfl) dX12_showInode_111 ⟨Nat.le_of_ble_eq_true rfl, Nat.le_of_ble_eq_true rfl⟩ rfl rfl (fun H locs hW => ?_)
        refine lv_imul hx hb dX12_showInode_114 ?_
        refine lv_i2l (v := ((2 : Int32) * o19.1).toInt64) hx hb dX12_showInode_115 rfl ?_
        obtain ⟨o22, h23, hf⟩ := gw_bind hf
        refine gw_Vv (As := [.int (x2 + (28 : Int32)), .int (4 : Int32), .long (((2 : Int32) * o19.1).toInt64)]) (mc' := 0) (ms' := 0) F hW (mMX12_put_0 h23) (cwV 3 hts (gT_V q_7_45 q_7_47 qp_47 q_1_12 q_7_48) rfl rfl rfl hdX12_put ⟨Nat.le_of_ble_eq_true rfl, Nat.le_of_ble_eq_true rfl⟩) 0 10 (aM_0 K o19.2) rfl rfl hl.1 rfl (Nat.le_of_ble_eq_true rfl) dX12_showInode_116 ⟨Nat.le_of_ble_eq_true rfl, Nat.le_of_ble_eq_true rfl⟩ rfl rfl (fun H locs hW => ?_)
        refine lv_aload_n hx hb dX12_showInode_119 rfl (lv_at hl 0 rfl) ?_
        refine lv_iload_n hx hb dX12_showInode_120 rfl (lv_at hl 2 rfl) ?_
        refine lv_bipush (v := (88 : Int32)) hx hb dX12_showInode_121 (by decide) ?_
        refine lv_iadd hx hb dX12_showInode_123 ?_
        refine lv_iconst (v := (4 : Int32)) hx hb dX12_showInode_124 (by decide) ?_
        refine lv_aload_n hx hb dX12_showInode_125 rfl (lv_at hl 0 rfl) ?_
        refine gw_get (v := .ref (ka K 13)) F inc_X12 hW 0 10 22 (aM_0 K o22) rfl (by decide) (hG _ q_6_134) (fun _ h9 => h9) rfl dX12_showInode_126 ?_
        refine lv_iload_n hx hb dX12_showInode_129 rfl (lv_at hl 1 rfl) ?_
        rcases Decidable.em (x1 < 0 ∨ 2100 ≤ x1.toNatClampNeg) with c25 | c25
        · replace hf := (if_pos c25).symm.trans hf
          exact absurd hf (by simp)
        · replace hf := (if_neg c25).symm.trans hf
          refine gw_iald F hW 13 12 (aM_13 K o22) rfl c25 dX12_showInode_130 ?_
          refine lv_i2l (v := (o22.2.1 12 x1.toNatClampNeg).toInt64) hx hb dX12_showInode_131 rfl ?_
          obtain ⟨o26, h27, hf⟩ := gw_bind hf
          refine gw_Vv (As := [.int (x2 + (88 : Int32)), .int (4 : Int32), .long ((o22.2.1 12 x1.toNatClampNeg).toInt64)]) (mc' := 0) (ms' := 0) F hW (mMX12_put_0 h27) (cwV 3 hts (gT_V q_7_45 q_7_47 qp_47 q_1_12 q_7_48) rfl rfl rfl hdX12_put ⟨Nat.le_of_ble_eq_true rfl, Nat.le_of_ble_eq_true rfl⟩) 0 10 (aM_0 K o22) rfl rfl hl.1 rfl (Nat.le_of_ble_eq_true rfl) dX12_showInode_132 ⟨Nat.le_of_ble_eq_true rfl, Nat.le_of_ble_eq_true rfl⟩ rfl rfl (fun H locs hW => ?_)
          refine lv_aload_n hx hb dX12_showInode_135 rfl (lv_at hl 0 rfl) ?_
          refine lv_iload_n hx hb dX12_showInode_136 rfl (lv_at hl 2 rfl) ?_
          refine lv_bipush (v := (92 : Int32)) hx hb dX12_showInode_137 (by decide) ?_
          refine lv_iadd hx hb dX12_showInode_139 ?_
          refine lv_iconst (v := (4 : Int32)) hx hb dX12_showInode_140 (by decide) ?_
          refine lv_aload_n hx hb dX12_showInode_141 rfl (lv_at hl 0 rfl) ?_
          refine gw_get (v := .ref (ka K 14)) F inc_X12 hW 0 10 23 (aM_0 K o26) rfl (by decide) (hG _ q_6_135) (fun _ h9 => h9) rfl dX12_showInode_142 ?_
          refine lv_iload_n hx hb dX12_showInode_145 rfl (lv_at hl 1 rfl) ?_
          rcases Decidable.em (x1 < 0 ∨ 2100 ≤ x1.toNatClampNeg) with c29 | c29
          · replace hf := (if_pos c29).symm.trans hf
            exact absurd hf (by simp)
          · replace hf := (if_neg c29).symm.trans hf
            refine gw_iald F hW 14 13 (aM_14 K o26) rfl c29 dX12_showInode_146 ?_
            refine lv_i2l (v := (o26.2.1 13 x1.toNatClampNeg).toInt64) hx hb dX12_showInode_147 rfl ?_
            obtain ⟨o30, h31, hf⟩ := gw_bind hf
            refine gw_Vv (As := [.int (x2 + (92 : Int32)), .int (4 : Int32), .long ((o26.2.1 13 x1.toNatClampNeg).toInt64)]) (mc' := 0) (ms' := 0) F hW (mMX12_put_0 h31) (cwV 3 hts (gT_V q_7_45 q_7_47 qp_47 q_1_12 q_7_48) rfl rfl rfl hdX12_put ⟨Nat.le_of_ble_eq_true rfl, Nat.le_of_ble_eq_true rfl⟩) 0 10 (aM_0 K o26) rfl rfl hl.1 rfl (Nat.le_of_ble_eq_true rfl) dX12_showInode_148 ⟨Nat.le_of_ble_eq_true rfl, Nat.le_of_ble_eq_true rfl⟩ rfl rfl (fun H locs hW => ?_)
            refine lv_aload_n hx hb dX12_showInode_151 rfl (lv_at hl 0 rfl) ?_
            refine gw_get (v := .ref (ka K 15)) F inc_X12 hW 0 10 24 (aM_0 K o30) rfl (by decide) (hG _ q_6_136) (fun _ h9 => h9) rfl dX12_showInode_152 ?_
            refine lv_iload_n hx hb dX12_showInode_155 rfl (lv_at hl 1 rfl) ?_
            rcases Decidable.em (x1 < 0 ∨ 2100 ≤ x1.toNatClampNeg) with c33 | c33
            · replace hf := (if_pos c33).symm.trans hf
              exact absurd hf (by simp)
            · replace hf := (if_neg c33).symm.trans hf
              refine gw_iald F hW 15 14 (aM_15 K o30) rfl c33 dX12_showInode_156 ?_
              refine lv_istore_n (lv' := [(3, .int (o30.2.1 14 x1.toNatClampNeg)), (0, .ref (ka K 0)), (1, .int x1), (2, .int x2)]) hx hb dX12_showInode_157 rfl hl (by decide) rfl (fun ls hl => ?_)
              refine lv_aload_n hx hb dX12_showInode_158 rfl (lv_at hl 1 rfl) ?_
              refine gw_get (v := .ref (ka K 11)) F inc_X12 hW 0 10 20 (aM_0 K o30) rfl (by decide) (hG _ q_6_132) (fun _ h9 => h9) rfl dX12_showInode_159 ?_
              refine lv_iload_n hx hb dX12_showInode_162 rfl (lv_at hl 2 rfl) ?_
              rcases Decidable.em (x1 < 0 ∨ 2100 ≤ x1.toNatClampNeg) with c34 | c34
              · replace hf := (if_pos c34).symm.trans hf
                exact absurd hf (by simp)
              · replace hf := (if_neg c34).symm.trans hf
                refine gw_iald F hW 11 10 (aM_11 K o30) rfl c34 dX12_showInode_163 ?_
                refine lv_istore (lv' := [(4, .int (o30.2.1 10 x1.toNatClampNeg)), (3, .int (o30.2.1 14 x1.toNatClampNeg)), (0, .ref (ka K 0)), (1, .int x1), (2, .int x2)]) hx hb dX12_showInode_164 hl (by decide) rfl (fun ls hl => ?_)
                refine lv_iconst (v := (0 : Int32)) hx hb dX12_showInode_166 (by decide) ?_
                refine lv_istore (lv' := [(5, .int (0 : Int32)), (4, .int (o30.2.1 10 x1.toNatClampNeg)), (3, .int (o30.2.1 14 x1.toNatClampNeg)), (0, .ref (ka K 0)), (1, .int x1), (2, .int x2)]) hx hb dX12_showInode_167 hl (by decide) rfl (fun ls hl => ?_)
                exact lfix_ind (P := PMX12_showInode_0_169 p l e s m args below meth c A K) (fun k169 hk169 t o hf => wMX12_showInode_0_169 F hk169 t.1 t.2.1 t.2.2.1 t.2.2.2.1 t.2.2.2.2.1 t.2.2.2.2.2 o hf) FU _ _ hf _ _ _ (lv_sub hl [3, 4, 5, 2, 1, 0] rfl) hW
  · replace hf := (if_neg c13).symm.trans hf
    refine lv_aload_n hx hb dX12_showInode_53 rfl (lv_at hl 0 rfl) ?_
    refine lv_iload_n hx hb dX12_showInode_54 rfl (lv_at hl 2 rfl) ?_
    refine lv_bipush (v := (8 : Int32)) hx hb dX12_showInode_55 (by decide) ?_
    refine lv_iadd hx hb dX12_showInode_57 ?_
    refine lv_iconst (v := (4 : Int32)) hx hb dX12_showInode_58 (by decide) ?_
    refine lv_iload_n hx hb dX12_showInode_59 rfl (lv_at hl 3 rfl) ?_
    refine lv_imul hx hb dX12_showInode_60 ?_
    refine lv_iadd hx hb dX12_showInode_61 ?_
    refine lv_iconst (v := (4 : Int32)) hx hb dX12_showInode_62 (by decide) ?_
    refine lv_aload_n hx hb dX12_showInode_63 rfl (lv_at hl 0 rfl) ?_
    refine gw_get (v := .ref (ka K 17)) F inc_X12 hW 0 10 26 (aM_0 K σ) rfl (by decide) (hG _ q_6_138) (fun _ h9 => h9) rfl dX12_showInode_64 ?_
    refine lv_iconst (v := (3 : Int32)) hx hb dX12_showInode_67 (by decide) ?_
    refine lv_iload_n hx hb dX12_showInode_68 rfl (lv_at hl 1 rfl) ?_
    refine lv_imul hx hb dX12_showInode_69 ?_
    refine lv_iload_n hx hb dX12_showInode_70 rfl (lv_at hl 3 rfl) ?_
    refine lv_iadd hx hb dX12_showInode_71 ?_
    rcases Decidable.em ((((3 : Int32) * x1) + x3) < 0 ∨ 6300 ≤ (((3 : Int32) * x1) + x3).toNatClampNeg) with c61 | c61
    · replace hf := (if_pos c61).symm.trans hf
      exact absurd hf (by simp)
    · replace hf := (if_neg c61).symm.trans hf
      refine gw_lald F hW 17 16 (aM_17 K σ) rfl c61 dX12_showInode_72 ?_
      obtain ⟨o62, h63, hf⟩ := gw_bind hf
      refine gw_Vv (As := [.int ((x2 + (8 : Int32)) + ((4 : Int32) * x3)), .int (4 : Int32), .long (σ.2.2 0 (((3 : Int32) * x1) + x3).toNatClampNeg)]) (mc' := 0) (ms' := 0) F hW (mMX12_put_0 h63) (cwV 3 hts (gT_V q_7_45 q_7_47 qp_47 q_1_12 q_7_48) rfl rfl rfl hdX12_put ⟨Nat.le_of_ble_eq_true rfl, Nat.le_of_ble_eq_true rfl⟩) 0 10 (aM_0 K σ) rfl rfl hl.1 rfl (Nat.le_of_ble_eq_true rfl) dX12_showInode_73 ⟨Nat.le_of_ble_eq_true rfl, Nat.le_of_ble_eq_true rfl⟩ rfl rfl (fun H locs hW => ?_)
      refine lv_iinc (v := (x3 + (1 : Int32))) (lv' := [(3, .int (x3 + (1 : Int32))), (0, .ref (ka K 0)), (1, .int x1), (2, .int x2)]) hx hb dX12_showInode_76 hl (k := 3) rfl rfl (by decide) rfl (fun ls hl => ?_)
      refine lv_goto (tgt := 48) hx hb dX12_showInode_79 (by decide) ?_
      exact hk48 _ _ hf _ _ _ (lv_sub hl [1, 2, 3, 0] rfl) hW
set_option maxHeartbeats 4000000 in
set_option maxRecDepth 100000 in
theorem wMX12_showInode_0_28 {p : Program} {l : Launch} {e : Env} {s : State} {m : MethodId} {args : Array Value} {below : List Frame} {meth : Method} {c : Code} {A : Nat → Prop} {K : KX} (F : fx_ p s m args meth c cX12_showInode 7 none RX12 wsX12_showInode) (x1 : Int32) (x2 : Int32) (y0 : Int64) (y1 : Int32) (y2 : Int32) (σ : XS) (o : XS) (hf : fMX12_showInode_0_28 (kn K) x1 x2 y0 y1 y2 σ = some o) (H : Heap) (locs : List Loc) (ls : Array Slot) (hl : lv_has ls 7 [(0, .ref (ka K 0)), (1, .int x1), (2, .int x2)]) (hW : gw_ (kD K) vwCl (tyM K) (wM K) A s σ H locs) : W p l e rMX12_showInode_0 s m args below meth c H locs 0 0 (MQ below (gw_Qv (kD K) vwCl (tyM K) (wM K) A o) args s rMX12_showInode_0.cells rMX12_showInode_0.slots A) (F0 m 28 ls [.long y0, .int y1, .int y2, .ref (ka K 0)]) := by
  have hx := F.1
  have hb := F.2.1
  have hml := F.2.2.2.1
  have hown := F.2.2.2.2.1
  have hts := F.2.2.2.2.2.1
  have hG : ∀ x ∈ gT, x.before args s = true := fun x h => hts x (List.mem_cons_of_mem _ h)
  unfold fMX12_showInode_0_28 at hf
  obtain ⟨o6, h7, hf⟩ := gw_bind hf
  refine gw_Vv (As := [.int y2, .int y1, .long y0]) (mc' := 0) (ms' := 0) F hW (mMX12_put_0 h7) (cwV 3 hts (gT_V q_7_45 q_7_47 qp_47 q_1_12 q_7_48) rfl rfl rfl hdX12_put ⟨Nat.le_of_ble_eq_true rfl, Nat.le_of_ble_eq_true rfl⟩) 0 10 (aM_0 K σ) rfl rfl hl.1 rfl (Nat.le_of_ble_eq_true rfl) dX12_showInode_28 ⟨Nat.le_of_ble_eq_true rfl, Nat.le_of_ble_eq_true rfl⟩ rfl rfl (fun H locs hW => ?_)
  refine lv_aload_n hx hb dX12_showInode_31 rfl (lv_at hl 0 rfl) ?_
  refine lv_iload_n hx hb dX12_showInode_32 rfl (lv_at hl 2 rfl) ?_
  refine lv_iconst (v := (4 : Int32)) hx hb dX12_showInode_33 (by decide) ?_
  refine lv_iadd hx hb dX12_showInode_34 ?_
  refine lv_iconst (v := (4 : Int32)) hx hb dX12_showInode_35 (by decide) ?_
  refine lv_aload_n hx hb dX12_showInode_36 rfl (lv_at hl 0 rfl) ?_
  refine gw_get (v := .ref (ka K 8)) F inc_X12 hW 0 10 17 (aM_0 K o6) rfl (by decide) (hG _ q_6_129) (fun _ h9 => h9) rfl dX12_showInode_37 ?_
  refine lv_iload_n hx hb dX12_showInode_40 rfl (lv_at hl 1 rfl) ?_
  rcases Decidable.em (x1 < 0 ∨ 2100 ≤ x1.toNatClampNeg) with c9 | c9
  · replace hf := (if_pos c9).symm.trans hf
    exact absurd hf (by simp)
  · replace hf := (if_neg c9).symm.trans hf
    refine gw_iald F hW 8 7 (aM_8 K o6) rfl c9 dX12_showInode_41 ?_
    refine lv_i2l (v := (o6.2.1 7 x1.toNatClampNeg).toInt64) hx hb dX12_showInode_42 rfl ?_
    obtain ⟨o10, h11, hf⟩ := gw_bind hf
    refine gw_Vv (As := [.int (x2 + (4 : Int32)), .int (4 : Int32), .long ((o6.2.1 7 x1.toNatClampNeg).toInt64)]) (mc' := 0) (ms' := 0) F hW (mMX12_put_0 h11) (cwV 3 hts (gT_V q_7_45 q_7_47 qp_47 q_1_12 q_7_48) rfl rfl rfl hdX12_put ⟨Nat.le_of_ble_eq_true rfl, Nat.le_of_ble_eq_true rfl⟩) 0 10 (aM_0 K o6) rfl rfl hl.1 rfl (Nat.le_of_ble_eq_true rfl) dX12_showInode_43 ⟨Nat.le_of_ble_eq_true rfl, Nat.le_of_ble_eq_true rfl⟩ rfl rfl (fun H locs hW => ?_)
    refine lv_iconst (v := (0 : Int32)) hx hb dX12_showInode_46 (by decide) ?_
    refine lv_istore_n (lv' := [(3, .int (0 : Int32)), (0, .ref (ka K 0)), (1, .int x1), (2, .int x2)]) hx hb dX12_showInode_47 rfl hl (by decide) rfl (fun ls hl => ?_)
    exact lfix_ind (P := PMX12_showInode_0_48 p l e s m args below meth c A K) (fun k48 hk48 t o hf => wMX12_showInode_0_48 F hk48 t.1 t.2.1 t.2.2.1 t.2.2.2 o hf) FU _ _ hf _ _ _ (lv_sub hl [1, 2, 3, 0] rfl) hW
set_option maxHeartbeats 4000000 in
set_option maxRecDepth 100000 in
theorem wMX12_showInode_0_0 {p : Program} {l : Launch} {e : Env} {s : State} {m : MethodId} {args : Array Value} {below : List Frame} {meth : Method} {c : Code} {A : Nat → Prop} {K : KX} (F : fx_ p s m args meth c cX12_showInode 7 none RX12 wsX12_showInode) (x1 : Int32) (σ : XS) (o : XS) (hf : fMX12_showInode_0_0 (kn K) x1 σ = some o) (H : Heap) (locs : List Loc) (ls : Array Slot) (hl : lv_has ls 7 [(0, .ref (ka K 0)), (1, .int x1)]) (hW : gw_ (kD K) vwCl (tyM K) (wM K) A s σ H locs) : W p l e rMX12_showInode_0 s m args below meth c H locs 0 0 (MQ below (gw_Qv (kD K) vwCl (tyM K) (wM K) A o) args s rMX12_showInode_0.cells rMX12_showInode_0.slots A) (F0 m 0 ls []) := by
  have hx := F.1
  have hb := F.2.1
  have hml := F.2.2.2.1
  have hown := F.2.2.2.2.1
  have hts := F.2.2.2.2.2.1
  have hG : ∀ x ∈ gT, x.before args s = true := fun x h => hts x (List.mem_cons_of_mem _ h)
  unfold fMX12_showInode_0_0 at hf
  refine lv_aload_n hx hb dX12_showInode_0 rfl (lv_at hl 0 rfl) ?_
  refine lv_iload_n hx hb dX12_showInode_1 rfl (lv_at hl 1 rfl) ?_
  obtain ⟨o1, h2, hf⟩ := gw_bind hf
  refine gw_Vi (As := [.int x1]) (mc' := 0) (ms' := 0) F hW (mMX12_inodeAt_0 h2) (cwV 1 hts (gT_V q_7_62 q_7_64 qp_50 q_1_12 q_7_65) rfl rfl rfl hdX12_inodeAt ⟨Nat.le_of_ble_eq_true rfl, Nat.le_of_ble_eq_true rfl⟩) 0 10 (aM_0 K σ) rfl rfl hl.1 rfl (Nat.le_of_ble_eq_true rfl) dX12_showInode_2 ⟨Nat.le_of_ble_eq_true rfl, Nat.le_of_ble_eq_true rfl⟩ rfl rfl (fun H locs hW => ?_)
  refine lv_istore_n (lv' := [(2, .int o1.1), (0, .ref (ka K 0)), (1, .int x1)]) hx hb dX12_showInode_5 rfl hl (by decide) rfl (fun ls hl => ?_)
  refine lv_aload_n hx hb dX12_showInode_6 rfl (lv_at hl 1 rfl) ?_
  refine lv_iload_n hx hb dX12_showInode_7 rfl (lv_at hl 0 rfl) ?_
  refine lv_iconst (v := (2 : Int32)) hx hb dX12_showInode_8 (by decide) ?_
  refine lv_aload_n hx hb dX12_showInode_9 rfl (lv_at hl 1 rfl) ?_
  refine gw_get (v := .ref (ka K 7)) F inc_X12 hW 0 10 16 (aM_0 K o1.2) rfl (by decide) (hG _ q_6_128) (fun _ h9 => h9) rfl dX12_showInode_10 ?_
  refine lv_iload_n hx hb dX12_showInode_13 rfl (lv_at hl 2 rfl) ?_
  rcases Decidable.em (x1 < 0 ∨ 2100 ≤ x1.toNatClampNeg) with c4 | c4
  · replace hf := (if_pos c4).symm.trans hf
    exact absurd hf (by simp)
  · replace hf := (if_neg c4).symm.trans hf
    refine gw_iald F hW 7 6 (aM_7 K o1.2) rfl c4 dX12_showInode_14 ?_
    refine lv_iconst (v := (2 : Int32)) hx hb dX12_showInode_15 (by decide) ?_
    refine lv_icmp_ne (tgt := 25) hx hb dX12_showInode_16 (by decide) (fun c5 => ?_) (fun c5 => ?_)
    · replace hf := (if_neg c5).symm.trans hf
      refine lv_ldc2 (own := RX12) (v := (33188 : Int64)) hx hb hown (hts _ (List.mem_cons_of_mem _ q_7_67)) dX12_showInode_25 ?_
      exact wMX12_showInode_0_28 F x1 o1.1 (33188 : Int64) (2 : Int32) o1.1 _ _ hf _ _ _ (lv_sub hl [1, 2, 0] rfl) hW
    · replace hf := (if_pos c5).symm.trans hf
      refine lv_ldc2 (own := RX12) (v := (16877 : Int64)) hx hb hown (hts _ (List.mem_cons_of_mem _ q_7_66)) dX12_showInode_19 ?_
      refine lv_goto (tgt := 28) hx hb dX12_showInode_22 (by decide) ?_
      exact wMX12_showInode_0_28 F x1 o1.1 (16877 : Int64) (2 : Int32) o1.1 _ _ hf _ _ _ (lv_sub hl [1, 2, 0] rfl) hW
set_option maxHeartbeats 4000000 in
set_option maxRecDepth 100000 in
theorem mMX12_showInode_0 {l : Launch} {K : KX} {σ : XS} {x1 : Int32} {o : XS} (hf : fMX12_showInode_0 (kn K) x1 σ = some o) : gw_Mv l (kD K) vwCl (tyM K) (wM K) yX12_showInode wsX12_showInode rMX12_showInode_0 [.ref (ka K 0), .int x1] σ o := by
  intro sz
  refine gw_body (cc := cX12_showInode) (maxL := 7) (yret := none) (by decide +kernel) rfl ?_ (Nat.le_of_ble_eq_true rfl)
  intro p e s m below meth c F hsz hW ls hl
  exact wMX12_showInode_0_0 F x1 σ o hf s.heap [] ls hl hW
abbrev rMX12_showGroup_0 : Room := { frames := 2, cells := 0, slots := 0, locals := 42 }
def PMX12_showGroup_0_221 (p : Program) (l : Launch) (e : Env) (s : State) (m : MethodId) (args : Array Value) (below : List Frame) (meth : Method) (c : Code) (A : Nat → Prop) (K : KX) (t : (Int32 × Int32 × Int32 × Int32 × Int32 × XS)) (o : XS) : Prop := ∀ (H : Heap) (locs : List Loc) (ls : Array Slot), lv_has ls 9 [(0, .ref (ka K 0)), (1, .int t.1), (3, .int t.2.1), (4, .int t.2.2.1), (5, .int t.2.2.2.1), (6, .int t.2.2.2.2.1)] → gw_ (kD K) vwCl (tyM K) (wM K) A s t.2.2.2.2.2 H locs → W p l e rMX12_showGroup_0 s m args below meth c H locs 0 0 (MQ below (gw_Qv (kD K) vwCl (tyM K) (wM K) A o) args s rMX12_showGroup_0.cells rMX12_showGroup_0.slots A) (F0 m 221 ls [])
def PMX12_showGroup_0_23 (p : Program) (l : Launch) (e : Env) (s : State) (m : MethodId) (args : Array Value) (below : List Frame) (meth : Method) (c : Code) (A : Nat → Prop) (K : KX) (t : (Int32 × Int32 × Int32 × Int32 × Int32 × Int32 × XS)) (o : XS) : Prop := ∀ (H : Heap) (locs : List Loc) (ls : Array Slot), lv_has ls 9 [(0, .ref (ka K 0)), (1, .int t.1), (2, .int t.2.1), (3, .int t.2.2.1), (4, .int t.2.2.2.1), (5, .int t.2.2.2.2.1), (6, .int t.2.2.2.2.2.1)] → gw_ (kD K) vwCl (tyM K) (wM K) A s t.2.2.2.2.2.2 H locs → W p l e rMX12_showGroup_0 s m args below meth c H locs 0 0 (MQ below (gw_Qv (kD K) vwCl (tyM K) (wM K) A o) args s rMX12_showGroup_0.cells rMX12_showGroup_0.slots A) (F0 m 23 ls [])
set_option maxHeartbeats 4000000 in
set_option maxRecDepth 100000 in
theorem wMX12_showGroup_0_221 {p : Program} {l : Launch} {e : Env} {s : State} {m : MethodId} {args : Array Value} {below : List Frame} {meth : Method} {c : Code} {A : Nat → Prop} {K : KX} (F : fx_ p s m args meth c cX12_showGroup 9 none RX12 wsX12_showGroup) {k221 : (Int32 × Int32 × Int32 × Int32 × Int32 × XS) → Option XS} (hk221 : ∀ t o, k221 t = some o → PMX12_showGroup_0_221 p l e s m args below meth c A K t o) (x1 : Int32) (x3 : Int32) (x4 : Int32) (x5 : Int32) (x6 : Int32) (σ : XS) (o : XS) (hf : fMX12_showGroup_0_221 (kn K) k221 x1 x3 x4 x5 x6 σ = some o) (H : Heap) (locs : List Loc) (ls : Array Slot) (hl : lv_has ls 9 [(0, .ref (ka K 0)), (1, .int x1), (3, .int x3), (4, .int x4), (5, .int x5), (6, .int x6)]) (hW : gw_ (kD K) vwCl (tyM K) (wM K) A s σ H locs) : W p l e rMX12_showGroup_0 s m args below meth c H locs 0 0 (MQ below (gw_Qv (kD K) vwCl (tyM K) (wM K) A o) args s rMX12_showGroup_0.cells rMX12_showGroup_0.slots A) (F0 m 221 ls []) := by
  have hx := F.1
  have hb := F.2.1
  have hml := F.2.2.2.1
  have hown := F.2.2.2.2.1
  have hts := F.2.2.2.2.2.1
  have hG : ∀ x ∈ gT, x.before args s = true := fun x h => hts x (List.mem_cons_of_mem _ h)
  unfold fMX12_showGroup_0_221 at hf
  refine lv_iload hx hb dX12_showGroup_221 (lv_at hl 5 rfl) ?_
  refine lv_aload_n hx hb dX12_showGroup_223 rfl (lv_at hl 0 rfl) ?_
  refine gw_get (v := .int (σ.1 7)) F inc_X12 hW 0 10 12 (aM_0 K σ) rfl (by decide) (hG _ q_6_124) (fun _ h9 => h9) rfl dX12_showGroup_224 ?_
  refine lv_icmp_ge (tgt := 343) hx hb dX12_showGroup_227 (by decide) (fun c5 => ?_) (fun c5 => ?_)
  · replace hf := (if_pos c5).symm.trans hf
    refine lv_sipush (v := (1024 : Int32)) hx hb dX12_showGroup_343 (by decide) ?_
    refine lv_aload_n hx hb dX12_showGroup_346 rfl (lv_at hl 0 rfl) ?_
    refine lv_iload_n hx hb dX12_showGroup_347 rfl (lv_at hl 1 rfl) ?_
    obtain ⟨o6, h7, hf⟩ := gw_bind hf
    refine gw_Vi (As := [.int x1]) (mc' := 0) (ms' := 0) F hW (mMX12_begin_0 h7) (cwV 1 hts (gT_V q_7_37 q_7_39 qp_45 q_1_12 q_7_40) rfl rfl rfl hdX12_begin ⟨Nat.le_of_ble_eq_true rfl, Nat.le_of_ble_eq_true rfl⟩) 0 10 (aM_0 K σ) rfl rfl hl.1 rfl (Nat.le_of_ble_eq_true rfl) dX12_showGroup_348 ⟨Nat.le_of_ble_eq_true rfl, Nat.le_of_ble_eq_true rfl⟩ rfl rfl (fun H locs hW => ?_)
    refine lv_imul hx hb dX12_showGroup_351 ?_
    refine lv_istore (lv' := [(6, .int ((1024 : Int32) * o6.1)), (0, .ref (ka K 0)), (1, .int x1), (3, .int x3), (4, .int x4), (5, .int x5)]) hx hb dX12_showGroup_352 hl (by decide) rfl (fun ls hl => ?_)
    refine lv_aload_n hx hb dX12_showGroup_354 rfl (lv_at hl 1 rfl) ?_
    refine lv_iload hx hb dX12_showGroup_355 (lv_at hl 0 rfl) ?_
    refine lv_iconst (v := (4 : Int32)) hx hb dX12_showGroup_357 (by decide) ?_
    refine lv_aload_n hx hb dX12_showGroup_358 rfl (lv_at hl 1 rfl) ?_
    refine gw_get (v := .int (o6.2.1 7)) F inc_X12 hW 0 10 12 (aM_0 K o6.2) rfl (by decide) (hG _ q_6_124) (fun _ h9 => h9) rfl dX12_showGroup_359 ?_
    refine lv_aload_n hx hb dX12_showGroup_362 rfl (lv_at hl 1 rfl) ?_
    refine gw_get (v := .int (o6.2.1 5)) F inc_X12 hW 0 10 10 (aM_0 K o6.2) rfl (by decide) (hG _ q_6_122) (fun _ h9 => h9) rfl dX12_showGroup_363 ?_
    refine lv_imul hx hb dX12_showGroup_366 ?_
    refine lv_i2l (v := ((o6.2.1 7) * (o6.2.1 5)).toInt64) hx hb dX12_showGroup_367 rfl ?_
    obtain ⟨o9, h10, hf⟩ := gw_bind hf
    refine gw_Vv (As := [.int ((1024 : Int32) * o6.1), .int (4 : Int32), .long (((o6.2.1 7) * (o6.2.1 5)).toInt64)]) (mc' := 0) (ms' := 0) F hW (mMX12_put_0 h10) (cwV 3 hts (gT_V q_7_45 q_7_47 qp_47 q_1_12 q_7_48) rfl rfl rfl hdX12_put ⟨Nat.le_of_ble_eq_true rfl, Nat.le_of_ble_eq_true rfl⟩) 0 10 (aM_0 K o6.2) rfl rfl hl.1 rfl (Nat.le_of_ble_eq_true rfl) dX12_showGroup_368 ⟨Nat.le_of_ble_eq_true rfl, Nat.le_of_ble_eq_true rfl⟩ rfl rfl (fun H locs hW => ?_)
    refine lv_aload_n hx hb dX12_showGroup_371 rfl (lv_at hl 1 rfl) ?_
    refine lv_iload hx hb dX12_showGroup_372 (lv_at hl 0 rfl) ?_
    refine lv_iconst (v := (4 : Int32)) hx hb dX12_showGroup_374 (by decide) ?_
    refine lv_iadd hx hb dX12_showGroup_375 ?_
    refine lv_iconst (v := (4 : Int32)) hx hb dX12_showGroup_376 (by decide) ?_
    refine lv_aload_n hx hb dX12_showGroup_377 rfl (lv_at hl 1 rfl) ?_
    refine gw_get (v := .int (Int32.ofNat (kn K))) F inc_X12 hW 0 10 1 (aM_0 K o9) rfl (by decide) (hG _ q_6_113) (fun _ h9 => h9) rfl dX12_showGroup_378 ?_
    refine lv_i2l (v := (Int32.ofNat (kn K)).toInt64) hx hb dX12_showGroup_381 rfl ?_
    obtain ⟨o12, h13, hf⟩ := gw_bind hf
    refine gw_Vv (As := [.int (((1024 : Int32) * o6.1) + (4 : Int32)), .int (4 : Int32), .long ((Int32.ofNat (kn K)).toInt64)]) (mc' := 0) (ms' := 0) F hW (mMX12_put_0 h13) (cwV 3 hts (gT_V q_7_45 q_7_47 qp_47 q_1_12 q_7_48) rfl rfl rfl hdX12_put ⟨Nat.le_of_ble_eq_true rfl, Nat.le_of_ble_eq_true rfl⟩) 0 10 (aM_0 K o9) rfl rfl hl.1 rfl (Nat.le_of_ble_eq_true rfl) dX12_showGroup_382 ⟨Nat.le_of_ble_eq_true rfl, Nat.le_of_ble_eq_true rfl⟩ rfl rfl (fun H locs hW => ?_)
    refine lv_aload_n hx hb dX12_showGroup_385 rfl (lv_at hl 1 rfl) ?_
    refine lv_iload hx hb dX12_showGroup_386 (lv_at hl 0 rfl) ?_
    refine lv_bipush (v := (12 : Int32)) hx hb dX12_showGroup_388 (by decide) ?_
    refine lv_iadd hx hb dX12_showGroup_390 ?_
    refine lv_iconst (v := (4 : Int32)) hx hb dX12_showGroup_391 (by decide) ?_
    refine lv_aload_n hx hb dX12_showGroup_392 rfl (lv_at hl 1 rfl) ?_
    obtain ⟨o15, h16, hf⟩ := gw_bind hf
    refine gw_Vi (As := []) (mc' := 0) (ms' := 0) F hW (mMX12_freeBlocks_0 h16) (cwV 0 hts (gT_V q_7_21 q_7_23 qp_42 q_1_12 q_7_24) rfl rfl rfl hdX12_freeBlocks ⟨Nat.le_of_ble_eq_true rfl, Nat.le_of_ble_eq_true rfl⟩) 0 10 (aM_0 K o12) rfl rfl hl.1 rfl (Nat.le_of_ble_eq_true rfl) dX12_showGroup_393 ⟨Nat.le_of_ble_eq_true rfl, Nat.le_of_ble_eq_true rfl⟩ rfl rfl (fun H locs hW => ?_)
    refine lv_i2l (v := o15.1.toInt64) hx hb dX12_showGroup_396 rfl ?_
    obtain ⟨o18, h19, hf⟩ := gw_bind hf
    refine gw_Vv (As := [.int (((1024 : Int32) * o6.1) + (12 : Int32)), .int (4 : Int32), .long o15.1.toInt64]) (mc' := 0) (ms' := 0) F hW (mMX12_put_0 h19) (cwV 3 hts (gT_V q_7_45 q_7_47 qp_47 q_1_12 q_7_48) rfl rfl rfl hdX12_put ⟨Nat.le_of_ble_eq_true rfl, Nat.le_of_ble_eq_true rfl⟩) 0 10 (aM_0 K o15.2) rfl rfl hl.1 rfl (Nat.le_of_ble_eq_true rfl) dX12_showGroup_397 ⟨Nat.le_of_ble_eq_true rfl, Nat.le_of_ble_eq_true rfl⟩ rfl rfl (fun H locs hW => ?_)
    refine lv_aload_n hx hb dX12_showGroup_400 rfl (lv_at hl 1 rfl) ?_
    refine lv_iload hx hb dX12_showGroup_401 (lv_at hl 0 rfl) ?_
    refine lv_bipush (v := (16 : Int32)) hx hb dX12_showGroup_403 (by decide) ?_
    refine lv_iadd hx hb dX12_showGroup_405 ?_
    refine lv_iconst (v := (4 : Int32)) hx hb dX12_showGroup_406 (by decide) ?_
    refine lv_aload_n hx hb dX12_showGroup_407 rfl (lv_at hl 1 rfl) ?_
    obtain ⟨o21, h22, hf⟩ := gw_bind hf
    refine gw_Vi (As := []) (mc' := 0) (ms' := 0) F hW (mMX12_freeInodes_0 h22) (cwV 0 hts (gT_V q_7_49 q_7_51 qp_48 q_1_12 q_7_52) rfl rfl rfl hdX12_freeInodes ⟨Nat.le_of_ble_eq_true rfl, Nat.le_of_ble_eq_true rfl⟩) 0 10 (aM_0 K o18) rfl rfl hl.1 rfl (Nat.le_of_ble_eq_true rfl) dX12_showGroup_408 ⟨Nat.le_of_ble_eq_true rfl, Nat.le_of_ble_eq_true rfl⟩ rfl rfl (fun H locs hW => ?_)
    refine lv_i2l (v := o21.1.toInt64) hx hb dX12_showGroup_411 rfl ?_
    obtain ⟨o24, h25, hf⟩ := gw_bind hf
    refine gw_Vv (As := [.int (((1024 : Int32) * o6.1) + (16 : Int32)), .int (4 : Int32), .long o21.1.toInt64]) (mc' := 0) (ms' := 0) F hW (mMX12_put_0 h25) (cwV 3 hts (gT_V q_7_45 q_7_47 qp_47 q_1_12 q_7_48) rfl rfl rfl hdX12_put ⟨Nat.le_of_ble_eq_true rfl, Nat.le_of_ble_eq_true rfl⟩) 0 10 (aM_0 K o21.2) rfl rfl hl.1 rfl (Nat.le_of_ble_eq_true rfl) dX12_showGroup_412 ⟨Nat.le_of_ble_eq_true rfl, Nat.le_of_ble_eq_true rfl⟩ rfl rfl (fun H locs hW => ?_)
    refine lv_aload_n hx hb dX12_showGroup_415 rfl (lv_at hl 1 rfl) ?_
    refine lv_iload hx hb dX12_showGroup_416 (lv_at hl 0 rfl) ?_
    refine lv_bipush (v := (20 : Int32)) hx hb dX12_showGroup_418 (by decide) ?_
    refine lv_iadd hx hb dX12_showGroup_420 ?_
    refine lv_iconst (v := (4 : Int32)) hx hb dX12_showGroup_421 (by decide) ?_
    refine lv_lconst (v := (1 : Int64)) hx hb dX12_showGroup_422 (by decide) ?_
    obtain ⟨o27, h28, hf⟩ := gw_bind hf
    refine gw_Vv (As := [.int (((1024 : Int32) * o6.1) + (20 : Int32)), .int (4 : Int32), .long (1 : Int64)]) (mc' := 0) (ms' := 0) F hW (mMX12_put_0 h28) (cwV 3 hts (gT_V q_7_45 q_7_47 qp_47 q_1_12 q_7_48) rfl rfl rfl hdX12_put ⟨Nat.le_of_ble_eq_true rfl, Nat.le_of_ble_eq_true rfl⟩) 0 10 (aM_0 K o24) rfl rfl hl.1 rfl (Nat.le_of_ble_eq_true rfl) dX12_showGroup_423 ⟨Nat.le_of_ble_eq_true rfl, Nat.le_of_ble_eq_true rfl⟩ rfl rfl (fun H locs hW => ?_)
    refine lv_aload_n hx hb dX12_showGroup_426 rfl (lv_at hl 1 rfl) ?_
    refine lv_iload hx hb dX12_showGroup_427 (lv_at hl 0 rfl) ?_
    refine lv_bipush (v := (32 : Int32)) hx hb dX12_showGroup_429 (by decide) ?_
    refine lv_iadd hx hb dX12_showGroup_431 ?_
    refine lv_iconst (v := (4 : Int32)) hx hb dX12_showGroup_432 (by decide) ?_
    refine lv_aload_n hx hb dX12_showGroup_433 rfl (lv_at hl 1 rfl) ?_
    refine gw_get (v := .int (o27.1 4)) F inc_X12 hW 0 10 9 (aM_0 K o27) rfl (by decide) (hG _ q_6_121) (fun _ h9 => h9) rfl dX12_showGroup_434 ?_
    refine lv_i2l (v := (o27.1 4).toInt64) hx hb dX12_showGroup_437 rfl ?_
    obtain ⟨o30, h31, hf⟩ := gw_bind hf
    refine gw_Vv (As := [.int (((1024 : Int32) * o6.1) + (32 : Int32)), .int (4 : Int32), .long ((o27.1 4).toInt64)]) (mc' := 0) (ms' := 0) F hW (mMX12_put_0 h31) (cwV 3 hts (gT_V q_7_45 q_7_47 qp_47 q_1_12 q_7_48) rfl rfl rfl hdX12_put ⟨Nat.le_of_ble_eq_true rfl, Nat.le_of_ble_eq_true rfl⟩) 0 10 (aM_0 K o27) rfl rfl hl.1 rfl (Nat.le_of_ble_eq_true rfl) dX12_showGroup_438 ⟨Nat.le_of_ble_eq_true rfl, Nat.le_of_ble_eq_true rfl⟩ rfl rfl (fun H locs hW => ?_)
    refine lv_aload_n hx hb dX12_showGroup_441 rfl (lv_at hl 1 rfl) ?_
    refine lv_iload hx hb dX12_showGroup_442 (lv_at hl 0 rfl) ?_
    refine lv_bipush (v := (36 : Int32)) hx hb dX12_showGroup_444 (by decide) ?_
    refine lv_iadd hx hb dX12_showGroup_446 ?_
    refine lv_iconst (v := (4 : Int32)) hx hb dX12_showGroup_447 (by decide) ?_
    refine lv_aload_n hx hb dX12_showGroup_448 rfl (lv_at hl 1 rfl) ?_
    refine gw_get (v := .int (o30.1 4)) F inc_X12 hW 0 10 9 (aM_0 K o30) rfl (by decide) (hG _ q_6_121) (fun _ h9 => h9) rfl dX12_showGroup_449 ?_
    refine lv_i2l (v := (o30.1 4).toInt64) hx hb dX12_showGroup_452 rfl ?_
    obtain ⟨o33, h34, hf⟩ := gw_bind hf
    refine gw_Vv (As := [.int (((1024 : Int32) * o6.1) + (36 : Int32)), .int (4 : Int32), .long ((o30.1 4).toInt64)]) (mc' := 0) (ms' := 0) F hW (mMX12_put_0 h34) (cwV 3 hts (gT_V q_7_45 q_7_47 qp_47 q_1_12 q_7_48) rfl rfl rfl hdX12_put ⟨Nat.le_of_ble_eq_true rfl, Nat.le_of_ble_eq_true rfl⟩) 0 10 (aM_0 K o30) rfl rfl hl.1 rfl (Nat.le_of_ble_eq_true rfl) dX12_showGroup_453 ⟨Nat.le_of_ble_eq_true rfl, Nat.le_of_ble_eq_true rfl⟩ rfl rfl (fun H locs hW => ?_)
    refine lv_aload_n hx hb dX12_showGroup_456 rfl (lv_at hl 1 rfl) ?_
    refine lv_iload hx hb dX12_showGroup_457 (lv_at hl 0 rfl) ?_
    refine lv_bipush (v := (40 : Int32)) hx hb dX12_showGroup_459 (by decide) ?_
    refine lv_iadd hx hb dX12_showGroup_461 ?_
    refine lv_iconst (v := (4 : Int32)) hx hb dX12_showGroup_462 (by decide) ?_
    refine lv_aload_n hx hb dX12_showGroup_463 rfl (lv_at hl 1 rfl) ?_
    refine gw_get (v := .int (o33.1 5)) F inc_X12 hW 0 10 10 (aM_0 K o33) rfl (by decide) (hG _ q_6_122) (fun _ h9 => h9) rfl dX12_showGroup_464 ?_
    refine lv_i2l (v := (o33.1 5).toInt64) hx hb dX12_showGroup_467 rfl ?_
    obtain ⟨o36, h37, hf⟩ := gw_bind hf
    refine gw_Vv (As := [.int (((1024 : Int32) * o6.1) + (40 : Int32)), .int (4 : Int32), .long ((o33.1 5).toInt64)]) (mc' := 0) (ms' := 0) F hW (mMX12_put_0 h37) (cwV 3 hts (gT_V q_7_45 q_7_47 qp_47 q_1_12 q_7_48) rfl rfl rfl hdX12_put ⟨Nat.le_of_ble_eq_true rfl, Nat.le_of_ble_eq_true rfl⟩) 0 10 (aM_0 K o33) rfl rfl hl.1 rfl (Nat.le_of_ble_eq_true rfl) dX12_showGroup_468 ⟨Nat.le_of_ble_eq_true rfl, Nat.le_of_ble_eq_true rfl⟩ rfl rfl (fun H locs hW => ?_)
    refine lv_aload_n hx hb dX12_showGroup_471 rfl (lv_at hl 1 rfl) ?_
    refine lv_iload hx hb dX12_showGroup_472 (lv_at hl 0 rfl) ?_
    refine lv_bipush (v := (54 : Int32)) hx hb dX12_showGroup_474 (by decide) ?_
    refine lv_iadd hx hb dX12_showGroup_476 ?_
    refine lv_iconst (v := (2 : Int32)) hx hb dX12_showGroup_477 (by decide) ?_
    refine lv_ldc2 (own := RX12) (v := (65535 : Int64)) hx hb hown (hts _ (List.mem_cons_of_mem _ q_7_53)) dX12_showGroup_478 ?_
    obtain ⟨o39, h40, hf⟩ := gw_bind hf
    refine gw_Vv (As := [.int (((1024 : Int32) * o6.1) + (54 : Int32)), .int (2 : Int32), .long (65535 : Int64)]) (mc' := 0) (ms' := 0) F hW (mMX12_put_0 h40) (cwV 3 hts (gT_V q_7_45 q_7_47 qp_47 q_1_12 q_7_48) rfl rfl rfl hdX12_put ⟨Nat.le_of_ble_eq_true rfl, Nat.le_of_ble_eq_true rfl⟩) 0 10 (aM_0 K o36) rfl rfl hl.1 rfl (Nat.le_of_ble_eq_true rfl) dX12_showGroup_481 ⟨Nat.le_of_ble_eq_true rfl, Nat.le_of_ble_eq_true rfl⟩ rfl rfl (fun H locs hW => ?_)
    refine lv_aload_n hx hb dX12_showGroup_484 rfl (lv_at hl 1 rfl) ?_
    refine lv_iload hx hb dX12_showGroup_485 (lv_at hl 0 rfl) ?_
    refine lv_bipush (v := (56 : Int32)) hx hb dX12_showGroup_487 (by decide) ?_
    refine lv_iadd hx hb dX12_showGroup_489 ?_
    refine lv_iconst (v := (2 : Int32)) hx hb dX12_showGroup_490 (by decide) ?_
    refine lv_ldc2 (own := RX12) (v := (61267 : Int64)) hx hb hown (hts _ (List.mem_cons_of_mem _ q_7_54)) dX12_showGroup_491 ?_
    obtain ⟨o42, h43, hf⟩ := gw_bind hf
    refine gw_Vv (As := [.int (((1024 : Int32) * o6.1) + (56 : Int32)), .int (2 : Int32), .long (61267 : Int64)]) (mc' := 0) (ms' := 0) F hW (mMX12_put_0 h43) (cwV 3 hts (gT_V q_7_45 q_7_47 qp_47 q_1_12 q_7_48) rfl rfl rfl hdX12_put ⟨Nat.le_of_ble_eq_true rfl, Nat.le_of_ble_eq_true rfl⟩) 0 10 (aM_0 K o39) rfl rfl hl.1 rfl (Nat.le_of_ble_eq_true rfl) dX12_showGroup_494 ⟨Nat.le_of_ble_eq_true rfl, Nat.le_of_ble_eq_true rfl⟩ rfl rfl (fun H locs hW => ?_)
    refine lv_aload_n hx hb dX12_showGroup_497 rfl (lv_at hl 1 rfl) ?_
    refine lv_iload hx hb dX12_showGroup_498 (lv_at hl 0 rfl) ?_
    refine lv_bipush (v := (58 : Int32)) hx hb dX12_showGroup_500 (by decide) ?_
    refine lv_iadd hx hb dX12_showGroup_502 ?_
    refine lv_iconst (v := (2 : Int32)) hx hb dX12_showGroup_503 (by decide) ?_
    refine lv_lconst (v := (1 : Int64)) hx hb dX12_showGroup_504 (by decide) ?_
    obtain ⟨o45, h46, hf⟩ := gw_bind hf
    refine gw_Vv (As := [.int (((1024 : Int32) * o6.1) + (58 : Int32)), .int (2 : Int32), .long (1 : Int64)]) (mc' := 0) (ms' := 0) F hW (mMX12_put_0 h46) (cwV 3 hts (gT_V q_7_45 q_7_47 qp_47 q_1_12 q_7_48) rfl rfl rfl hdX12_put ⟨Nat.le_of_ble_eq_true rfl, Nat.le_of_ble_eq_true rfl⟩) 0 10 (aM_0 K o42) rfl rfl hl.1 rfl (Nat.le_of_ble_eq_true rfl) dX12_showGroup_505 ⟨Nat.le_of_ble_eq_true rfl, Nat.le_of_ble_eq_true rfl⟩ rfl rfl (fun H locs hW => ?_)
    refine lv_aload_n hx hb dX12_showGroup_508 rfl (lv_at hl 1 rfl) ?_
    refine lv_iload hx hb dX12_showGroup_509 (lv_at hl 0 rfl) ?_
    refine lv_bipush (v := (60 : Int32)) hx hb dX12_showGroup_511 (by decide) ?_
    refine lv_iadd hx hb dX12_showGroup_513 ?_
    refine lv_iconst (v := (2 : Int32)) hx hb dX12_showGroup_514 (by decide) ?_
    refine lv_lconst (v := (1 : Int64)) hx hb dX12_showGroup_515 (by decide) ?_
    obtain ⟨o48, h49, hf⟩ := gw_bind hf
    refine gw_Vv (As := [.int (((1024 : Int32) * o6.1) + (60 : Int32)), .int (2 : Int32), .long (1 : Int64)]) (mc' := 0) (ms' := 0) F hW (mMX12_put_0 h49) (cwV 3 hts (gT_V q_7_45 q_7_47 qp_47 q_1_12 q_7_48) rfl rfl rfl hdX12_put ⟨Nat.le_of_ble_eq_true rfl, Nat.le_of_ble_eq_true rfl⟩) 0 10 (aM_0 K o45) rfl rfl hl.1 rfl (Nat.le_of_ble_eq_true rfl) dX12_showGroup_516 ⟨Nat.le_of_ble_eq_true rfl, Nat.le_of_ble_eq_true rfl⟩ rfl rfl (fun H locs hW => ?_)
    refine lv_aload_n hx hb dX12_showGroup_519 rfl (lv_at hl 1 rfl) ?_
    refine lv_iload hx hb dX12_showGroup_520 (lv_at hl 0 rfl) ?_
    refine lv_bipush (v := (76 : Int32)) hx hb dX12_showGroup_522 (by decide) ?_
    refine lv_iadd hx hb dX12_showGroup_524 ?_
    refine lv_iconst (v := (4 : Int32)) hx hb dX12_showGroup_525 (by decide) ?_
    refine lv_lconst (v := (1 : Int64)) hx hb dX12_showGroup_526 (by decide) ?_
    obtain ⟨o51, h52, hf⟩ := gw_bind hf
    refine gw_Vv (As := [.int (((1024 : Int32) * o6.1) + (76 : Int32)), .int (4 : Int32), .long (1 : Int64)]) (mc' := 0) (ms' := 0) F hW (mMX12_put_0 h52) (cwV 3 hts (gT_V q_7_45 q_7_47 qp_47 q_1_12 q_7_48) rfl rfl rfl hdX12_put ⟨Nat.le_of_ble_eq_true rfl, Nat.le_of_ble_eq_true rfl⟩) 0 10 (aM_0 K o48) rfl rfl hl.1 rfl (Nat.le_of_ble_eq_true rfl) dX12_showGroup_527 ⟨Nat.le_of_ble_eq_true rfl, Nat.le_of_ble_eq_true rfl⟩ rfl rfl (fun H locs hW => ?_)
    refine lv_aload_n hx hb dX12_showGroup_530 rfl (lv_at hl 1 rfl) ?_
    refine lv_iload hx hb dX12_showGroup_531 (lv_at hl 0 rfl) ?_
    refine lv_bipush (v := (84 : Int32)) hx hb dX12_showGroup_533 (by decide) ?_
    refine lv_iadd hx hb dX12_showGroup_535 ?_
    refine lv_iconst (v := (4 : Int32)) hx hb dX12_showGroup_536 (by decide) ?_
    refine lv_ldc2 (own := RX12) (v := (11 : Int64)) hx hb hown (hts _ (List.mem_cons_of_mem _ q_7_55)) dX12_showGroup_537 ?_
    obtain ⟨o54, h55, hf⟩ := gw_bind hf
    refine gw_Vv (As := [.int (((1024 : Int32) * o6.1) + (84 : Int32)), .int (4 : Int32), .long (11 : Int64)]) (mc' := 0) (ms' := 0) F hW (mMX12_put_0 h55) (cwV 3 hts (gT_V q_7_45 q_7_47 qp_47 q_1_12 q_7_48) rfl rfl rfl hdX12_put ⟨Nat.le_of_ble_eq_true rfl, Nat.le_of_ble_eq_true rfl⟩) 0 10 (aM_0 K o51) rfl rfl hl.1 rfl (Nat.le_of_ble_eq_true rfl) dX12_showGroup_540 ⟨Nat.le_of_ble_eq_true rfl, Nat.le_of_ble_eq_true rfl⟩ rfl rfl (fun H locs hW => ?_)
    refine lv_aload_n hx hb dX12_showGroup_543 rfl (lv_at hl 1 rfl) ?_
    refine lv_iload hx hb dX12_showGroup_544 (lv_at hl 0 rfl) ?_
    refine lv_bipush (v := (88 : Int32)) hx hb dX12_showGroup_546 (by decide) ?_
    refine lv_iadd hx hb dX12_showGroup_548 ?_
    refine lv_iconst (v := (2 : Int32)) hx hb dX12_showGroup_549 (by decide) ?_
    refine lv_ldc2 (own := RX12) (v := (128 : Int64)) hx hb hown (hts _ (List.mem_cons_of_mem _ q_7_56)) dX12_showGroup_550 ?_
    obtain ⟨o57, h58, hf⟩ := gw_bind hf
    refine gw_Vv (As := [.int (((1024 : Int32) * o6.1) + (88 : Int32)), .int (2 : Int32), .long (128 : Int64)]) (mc' := 0) (ms' := 0) F hW (mMX12_put_0 h58) (cwV 3 hts (gT_V q_7_45 q_7_47 qp_47 q_1_12 q_7_48) rfl rfl rfl hdX12_put ⟨Nat.le_of_ble_eq_true rfl, Nat.le_of_ble_eq_true rfl⟩) 0 10 (aM_0 K o54) rfl rfl hl.1 rfl (Nat.le_of_ble_eq_true rfl) dX12_showGroup_553 ⟨Nat.le_of_ble_eq_true rfl, Nat.le_of_ble_eq_true rfl⟩ rfl rfl (fun H locs hW => ?_)
    refine lv_aload_n hx hb dX12_showGroup_556 rfl (lv_at hl 1 rfl) ?_
    refine lv_iload hx hb dX12_showGroup_557 (lv_at hl 0 rfl) ?_
    refine lv_bipush (v := (90 : Int32)) hx hb dX12_showGroup_559 (by decide) ?_
    refine lv_iadd hx hb dX12_showGroup_561 ?_
    refine lv_iconst (v := (2 : Int32)) hx hb dX12_showGroup_562 (by decide) ?_
    refine lv_iload_n hx hb dX12_showGroup_563 rfl (lv_at hl 2 rfl) ?_
    refine lv_i2l (v := x1.toInt64) hx hb dX12_showGroup_564 rfl ?_
    obtain ⟨o60, h61, hf⟩ := gw_bind hf
    refine gw_Vv (As := [.int (((1024 : Int32) * o6.1) + (90 : Int32)), .int (2 : Int32), .long x1.toInt64]) (mc' := 0) (ms' := 0) F hW (mMX12_put_0 h61) (cwV 3 hts (gT_V q_7_45 q_7_47 qp_47 q_1_12 q_7_48) rfl rfl rfl hdX12_put ⟨Nat.le_of_ble_eq_true rfl, Nat.le_of_ble_eq_true rfl⟩) 0 10 (aM_0 K o57) rfl rfl hl.1 rfl (Nat.le_of_ble_eq_true rfl) dX12_showGroup_565 ⟨Nat.le_of_ble_eq_true rfl, Nat.le_of_ble_eq_true rfl⟩ rfl rfl (fun H locs hW => ?_)
    refine lv_aload_n hx hb dX12_showGroup_568 rfl (lv_at hl 1 rfl) ?_
    refine lv_iload hx hb dX12_showGroup_569 (lv_at hl 0 rfl) ?_
    refine lv_bipush (v := (96 : Int32)) hx hb dX12_showGroup_571 (by decide) ?_
    refine lv_iadd hx hb dX12_showGroup_573 ?_
    refine lv_iconst (v := (4 : Int32)) hx hb dX12_showGroup_574 (by decide) ?_
    refine lv_ldc2 (own := RX12) (v := (2 : Int64)) hx hb hown (hts _ (List.mem_cons_of_mem _ q_7_57)) dX12_showGroup_575 ?_
    obtain ⟨o63, h64, hf⟩ := gw_bind hf
    refine gw_Vv (As := [.int (((1024 : Int32) * o6.1) + (96 : Int32)), .int (4 : Int32), .long (2 : Int64)]) (mc' := 0) (ms' := 0) F hW (mMX12_put_0 h64) (cwV 3 hts (gT_V q_7_45 q_7_47 qp_47 q_1_12 q_7_48) rfl rfl rfl hdX12_put ⟨Nat.le_of_ble_eq_true rfl, Nat.le_of_ble_eq_true rfl⟩) 0 10 (aM_0 K o60) rfl rfl hl.1 rfl (Nat.le_of_ble_eq_true rfl) dX12_showGroup_578 ⟨Nat.le_of_ble_eq_true rfl, Nat.le_of_ble_eq_true rfl⟩ rfl rfl (fun H locs hW => ?_)
    refine lv_aload_n hx hb dX12_showGroup_581 rfl (lv_at hl 1 rfl) ?_
    refine lv_iload hx hb dX12_showGroup_582 (lv_at hl 0 rfl) ?_
    refine lv_bipush (v := (104 : Int32)) hx hb dX12_showGroup_584 (by decide) ?_
    refine lv_iadd hx hb dX12_showGroup_586 ?_
    refine lv_iconst (v := (4 : Int32)) hx hb dX12_showGroup_587 (by decide) ?_
    refine lv_aload_n hx hb dX12_showGroup_588 rfl (lv_at hl 1 rfl) ?_
    refine gw_get (v := .int (o63.1 8)) F inc_X12 hW 0 10 13 (aM_0 K o63) rfl (by decide) (hG _ q_6_125) (fun _ h9 => h9) rfl dX12_showGroup_589 ?_
    refine lv_i2l (v := (o63.1 8).toInt64) hx hb dX12_showGroup_592 rfl ?_
    obtain ⟨o66, h67, hf⟩ := gw_bind hf
    refine gw_Vv (As := [.int (((1024 : Int32) * o6.1) + (104 : Int32)), .int (4 : Int32), .long ((o63.1 8).toInt64)]) (mc' := 0) (ms' := 0) F hW (mMX12_put_0 h67) (cwV 3 hts (gT_V q_7_45 q_7_47 qp_47 q_1_12 q_7_48) rfl rfl rfl hdX12_put ⟨Nat.le_of_ble_eq_true rfl, Nat.le_of_ble_eq_true rfl⟩) 0 10 (aM_0 K o63) rfl rfl hl.1 rfl (Nat.le_of_ble_eq_true rfl) dX12_showGroup_593 ⟨Nat.le_of_ble_eq_true rfl, Nat.le_of_ble_eq_true rfl⟩ rfl rfl (fun H locs hW => ?_)
    exact gw_retv F hW hf dX12_showGroup_596
  · replace hf := (if_neg c5).symm.trans hf
    refine lv_sipush (v := (1024 : Int32)) hx hb dX12_showGroup_230 (by decide) ?_
    refine lv_aload_n hx hb dX12_showGroup_233 rfl (lv_at hl 0 rfl) ?_
    refine lv_iload hx hb dX12_showGroup_234 (lv_at hl 5 rfl) ?_
    obtain ⟨o69, h70, hf⟩ := gw_bind hf
    refine gw_Vi (As := [.int x6]) (mc' := 0) (ms' := 0) F hW (mMX12_begin_0 h70) (cwV 1 hts (gT_V q_7_37 q_7_39 qp_45 q_1_12 q_7_40) rfl rfl rfl hdX12_begin ⟨Nat.le_of_ble_eq_true rfl, Nat.le_of_ble_eq_true rfl⟩) 0 10 (aM_0 K σ) rfl rfl hl.1 rfl (Nat.le_of_ble_eq_true rfl) dX12_showGroup_236 ⟨Nat.le_of_ble_eq_true rfl, Nat.le_of_ble_eq_true rfl⟩ rfl rfl (fun H locs hW => ?_)
    refine lv_iconst (v := (1 : Int32)) hx hb dX12_showGroup_239 (by decide) ?_
    refine lv_iadd hx hb dX12_showGroup_240 ?_
    refine lv_imul hx hb dX12_showGroup_241 ?_
    refine lv_bipush (v := (32 : Int32)) hx hb dX12_showGroup_242 (by decide) ?_
    refine lv_iload_n hx hb dX12_showGroup_244 rfl (lv_at hl 1 rfl) ?_
    refine lv_imul hx hb dX12_showGroup_245 ?_
    refine lv_iadd hx hb dX12_showGroup_246 ?_
    refine lv_istore (lv' := [(7, .int (((1024 : Int32) * (o69.1 + (1 : Int32))) + ((32 : Int32) * x1))), (0, .ref (ka K 0)), (1, .int x1), (3, .int x3), (4, .int x4), (5, .int x5), (6, .int x6)]) hx hb dX12_showGroup_247 hl (by decide) rfl (fun ls hl => ?_)
    refine lv_aload_n hx hb dX12_showGroup_249 rfl (lv_at hl 1 rfl) ?_
    refine lv_iload hx hb dX12_showGroup_250 (lv_at hl 0 rfl) ?_
    refine lv_iconst (v := (4 : Int32)) hx hb dX12_showGroup_252 (by decide) ?_
    refine lv_aload_n hx hb dX12_showGroup_253 rfl (lv_at hl 1 rfl) ?_
    refine lv_iload_n hx hb dX12_showGroup_254 rfl (lv_at hl 2 rfl) ?_
    obtain ⟨o72, h73, hf⟩ := gw_bind hf
    refine gw_Vi (As := [.int x1]) (mc' := 0) (ms' := 0) F hW (mMX12_begin_0 h73) (cwV 1 hts (gT_V q_7_37 q_7_39 qp_45 q_1_12 q_7_40) rfl rfl rfl hdX12_begin ⟨Nat.le_of_ble_eq_true rfl, Nat.le_of_ble_eq_true rfl⟩) 0 10 (aM_0 K o69.2) rfl rfl hl.1 rfl (Nat.le_of_ble_eq_true rfl) dX12_showGroup_255 ⟨Nat.le_of_ble_eq_true rfl, Nat.le_of_ble_eq_true rfl⟩ rfl rfl (fun H locs hW => ?_)
    refine lv_iconst (v := (2 : Int32)) hx hb dX12_showGroup_258 (by decide) ?_
    refine lv_iadd hx hb dX12_showGroup_259 ?_
    refine lv_i2l (v := (o72.1 + (2 : Int32)).toInt64) hx hb dX12_showGroup_260 rfl ?_
    obtain ⟨o75, h76, hf⟩ := gw_bind hf
    refine gw_Vv (As := [.int (((1024 : Int32) * (o69.1 + (1 : Int32))) + ((32 : Int32) * x1)), .int (4 : Int32), .long ((o72.1 + (2 : Int32)).toInt64)]) (mc' := 0) (ms' := 0) F hW (mMX12_put_0 h76) (cwV 3 hts (gT_V q_7_45 q_7_47 qp_47 q_1_12 q_7_48) rfl rfl rfl hdX12_put ⟨Nat.le_of_ble_eq_true rfl, Nat.le_of_ble_eq_true rfl⟩) 0 10 (aM_0 K o72.2) rfl rfl hl.1 rfl (Nat.le_of_ble_eq_true rfl) dX12_showGroup_261 ⟨Nat.le_of_ble_eq_true rfl, Nat.le_of_ble_eq_true rfl⟩ rfl rfl (fun H locs hW => ?_)
    refine lv_aload_n hx hb dX12_showGroup_264 rfl (lv_at hl 1 rfl) ?_
    refine lv_iload hx hb dX12_showGroup_265 (lv_at hl 0 rfl) ?_
    refine lv_iconst (v := (4 : Int32)) hx hb dX12_showGroup_267 (by decide) ?_
    refine lv_iadd hx hb dX12_showGroup_268 ?_
    refine lv_iconst (v := (4 : Int32)) hx hb dX12_showGroup_269 (by decide) ?_
    refine lv_aload_n hx hb dX12_showGroup_270 rfl (lv_at hl 1 rfl) ?_
    refine lv_iload_n hx hb dX12_showGroup_271 rfl (lv_at hl 2 rfl) ?_
    obtain ⟨o78, h79, hf⟩ := gw_bind hf
    refine gw_Vi (As := [.int x1]) (mc' := 0) (ms' := 0) F hW (mMX12_begin_0 h79) (cwV 1 hts (gT_V q_7_37 q_7_39 qp_45 q_1_12 q_7_40) rfl rfl rfl hdX12_begin ⟨Nat.le_of_ble_eq_true rfl, Nat.le_of_ble_eq_true rfl⟩) 0 10 (aM_0 K o75) rfl rfl hl.1 rfl (Nat.le_of_ble_eq_true rfl) dX12_showGroup_272 ⟨Nat.le_of_ble_eq_true rfl, Nat.le_of_ble_eq_true rfl⟩ rfl rfl (fun H locs hW => ?_)
    refine lv_iconst (v := (3 : Int32)) hx hb dX12_showGroup_275 (by decide) ?_
    refine lv_iadd hx hb dX12_showGroup_276 ?_
    refine lv_i2l (v := (o78.1 + (3 : Int32)).toInt64) hx hb dX12_showGroup_277 rfl ?_
    obtain ⟨o81, h82, hf⟩ := gw_bind hf
    refine gw_Vv (As := [.int ((((1024 : Int32) * (o69.1 + (1 : Int32))) + ((32 : Int32) * x1)) + (4 : Int32)), .int (4 : Int32), .long ((o78.1 + (3 : Int32)).toInt64)]) (mc' := 0) (ms' := 0) F hW (mMX12_put_0 h82) (cwV 3 hts (gT_V q_7_45 q_7_47 qp_47 q_1_12 q_7_48) rfl rfl rfl hdX12_put ⟨Nat.le_of_ble_eq_true rfl, Nat.le_of_ble_eq_true rfl⟩) 0 10 (aM_0 K o78.2) rfl rfl hl.1 rfl (Nat.le_of_ble_eq_true rfl) dX12_showGroup_278 ⟨Nat.le_of_ble_eq_true rfl, Nat.le_of_ble_eq_true rfl⟩ rfl rfl (fun H locs hW => ?_)
    refine lv_aload_n hx hb dX12_showGroup_281 rfl (lv_at hl 1 rfl) ?_
    refine lv_iload hx hb dX12_showGroup_282 (lv_at hl 0 rfl) ?_
    refine lv_bipush (v := (8 : Int32)) hx hb dX12_showGroup_284 (by decide) ?_
    refine lv_iadd hx hb dX12_showGroup_286 ?_
    refine lv_iconst (v := (4 : Int32)) hx hb dX12_showGroup_287 (by decide) ?_
    refine lv_aload_n hx hb dX12_showGroup_288 rfl (lv_at hl 1 rfl) ?_
    refine lv_iload_n hx hb dX12_showGroup_289 rfl (lv_at hl 2 rfl) ?_
    obtain ⟨o84, h85, hf⟩ := gw_bind hf
    refine gw_Vi (As := [.int x1]) (mc' := 0) (ms' := 0) F hW (mMX12_begin_0 h85) (cwV 1 hts (gT_V q_7_37 q_7_39 qp_45 q_1_12 q_7_40) rfl rfl rfl hdX12_begin ⟨Nat.le_of_ble_eq_true rfl, Nat.le_of_ble_eq_true rfl⟩) 0 10 (aM_0 K o81) rfl rfl hl.1 rfl (Nat.le_of_ble_eq_true rfl) dX12_showGroup_290 ⟨Nat.le_of_ble_eq_true rfl, Nat.le_of_ble_eq_true rfl⟩ rfl rfl (fun H locs hW => ?_)
    refine lv_iconst (v := (4 : Int32)) hx hb dX12_showGroup_293 (by decide) ?_
    refine lv_iadd hx hb dX12_showGroup_294 ?_
    refine lv_i2l (v := (o84.1 + (4 : Int32)).toInt64) hx hb dX12_showGroup_295 rfl ?_
    obtain ⟨o87, h88, hf⟩ := gw_bind hf
    refine gw_Vv (As := [.int ((((1024 : Int32) * (o69.1 + (1 : Int32))) + ((32 : Int32) * x1)) + (8 : Int32)), .int (4 : Int32), .long ((o84.1 + (4 : Int32)).toInt64)]) (mc' := 0) (ms' := 0) F hW (mMX12_put_0 h88) (cwV 3 hts (gT_V q_7_45 q_7_47 qp_47 q_1_12 q_7_48) rfl rfl rfl hdX12_put ⟨Nat.le_of_ble_eq_true rfl, Nat.le_of_ble_eq_true rfl⟩) 0 10 (aM_0 K o84.2) rfl rfl hl.1 rfl (Nat.le_of_ble_eq_true rfl) dX12_showGroup_296 ⟨Nat.le_of_ble_eq_true rfl, Nat.le_of_ble_eq_true rfl⟩ rfl rfl (fun H locs hW => ?_)
    refine lv_aload_n hx hb dX12_showGroup_299 rfl (lv_at hl 1 rfl) ?_
    refine lv_iload hx hb dX12_showGroup_300 (lv_at hl 0 rfl) ?_
    refine lv_bipush (v := (12 : Int32)) hx hb dX12_showGroup_302 (by decide) ?_
    refine lv_iadd hx hb dX12_showGroup_304 ?_
    refine lv_iconst (v := (2 : Int32)) hx hb dX12_showGroup_305 (by decide) ?_
    refine lv_iload_n hx hb dX12_showGroup_306 rfl (lv_at hl 3 rfl) ?_
    refine lv_i2l (v := x3.toInt64) hx hb dX12_showGroup_307 rfl ?_
    obtain ⟨o90, h91, hf⟩ := gw_bind hf
    refine gw_Vv (As := [.int ((((1024 : Int32) * (o69.1 + (1 : Int32))) + ((32 : Int32) * x1)) + (12 : Int32)), .int (2 : Int32), .long x3.toInt64]) (mc' := 0) (ms' := 0) F hW (mMX12_put_0 h91) (cwV 3 hts (gT_V q_7_45 q_7_47 qp_47 q_1_12 q_7_48) rfl rfl rfl hdX12_put ⟨Nat.le_of_ble_eq_true rfl, Nat.le_of_ble_eq_true rfl⟩) 0 10 (aM_0 K o87) rfl rfl hl.1 rfl (Nat.le_of_ble_eq_true rfl) dX12_showGroup_308 ⟨Nat.le_of_ble_eq_true rfl, Nat.le_of_ble_eq_true rfl⟩ rfl rfl (fun H locs hW => ?_)
    refine lv_aload_n hx hb dX12_showGroup_311 rfl (lv_at hl 1 rfl) ?_
    refine lv_iload hx hb dX12_showGroup_312 (lv_at hl 0 rfl) ?_
    refine lv_bipush (v := (14 : Int32)) hx hb dX12_showGroup_314 (by decide) ?_
    refine lv_iadd hx hb dX12_showGroup_316 ?_
    refine lv_iconst (v := (2 : Int32)) hx hb dX12_showGroup_317 (by decide) ?_
    refine lv_iload hx hb dX12_showGroup_318 (lv_at hl 4 rfl) ?_
    refine lv_i2l (v := x4.toInt64) hx hb dX12_showGroup_320 rfl ?_
    obtain ⟨o93, h94, hf⟩ := gw_bind hf
    refine gw_Vv (As := [.int ((((1024 : Int32) * (o69.1 + (1 : Int32))) + ((32 : Int32) * x1)) + (14 : Int32)), .int (2 : Int32), .long x4.toInt64]) (mc' := 0) (ms' := 0) F hW (mMX12_put_0 h94) (cwV 3 hts (gT_V q_7_45 q_7_47 qp_47 q_1_12 q_7_48) rfl rfl rfl hdX12_put ⟨Nat.le_of_ble_eq_true rfl, Nat.le_of_ble_eq_true rfl⟩) 0 10 (aM_0 K o90) rfl rfl hl.1 rfl (Nat.le_of_ble_eq_true rfl) dX12_showGroup_321 ⟨Nat.le_of_ble_eq_true rfl, Nat.le_of_ble_eq_true rfl⟩ rfl rfl (fun H locs hW => ?_)
    refine lv_aload_n hx hb dX12_showGroup_324 rfl (lv_at hl 1 rfl) ?_
    refine lv_iload hx hb dX12_showGroup_325 (lv_at hl 0 rfl) ?_
    refine lv_bipush (v := (16 : Int32)) hx hb dX12_showGroup_327 (by decide) ?_
    refine lv_iadd hx hb dX12_showGroup_329 ?_
    refine lv_iconst (v := (2 : Int32)) hx hb dX12_showGroup_330 (by decide) ?_
    refine lv_iload hx hb dX12_showGroup_331 (lv_at hl 5 rfl) ?_
    refine lv_i2l (v := x5.toInt64) hx hb dX12_showGroup_333 rfl ?_
    obtain ⟨o96, h97, hf⟩ := gw_bind hf
    refine gw_Vv (As := [.int ((((1024 : Int32) * (o69.1 + (1 : Int32))) + ((32 : Int32) * x1)) + (16 : Int32)), .int (2 : Int32), .long x5.toInt64]) (mc' := 0) (ms' := 0) F hW (mMX12_put_0 h97) (cwV 3 hts (gT_V q_7_45 q_7_47 qp_47 q_1_12 q_7_48) rfl rfl rfl hdX12_put ⟨Nat.le_of_ble_eq_true rfl, Nat.le_of_ble_eq_true rfl⟩) 0 10 (aM_0 K o93) rfl rfl hl.1 rfl (Nat.le_of_ble_eq_true rfl) dX12_showGroup_334 ⟨Nat.le_of_ble_eq_true rfl, Nat.le_of_ble_eq_true rfl⟩ rfl rfl (fun H locs hW => ?_)
    refine lv_iinc (v := (x6 + (1 : Int32))) (lv' := [(6, .int (x6 + (1 : Int32))), (7, .int (((1024 : Int32) * (o69.1 + (1 : Int32))) + ((32 : Int32) * x1))), (0, .ref (ka K 0)), (1, .int x1), (3, .int x3), (4, .int x4), (5, .int x5)]) hx hb dX12_showGroup_337 hl (k := 6) rfl rfl (by decide) rfl (fun ls hl => ?_)
    refine lv_goto (tgt := 221) hx hb dX12_showGroup_340 (by decide) ?_
    exact hk221 _ _ hf _ _ _ (lv_sub hl [2, 3, 4, 5, 6, 0] rfl) hW
set_option maxHeartbeats 4000000 in
set_option maxRecDepth 100000 in
theorem wMX12_showGroup_0_209 {p : Program} {l : Launch} {e : Env} {s : State} {m : MethodId} {args : Array Value} {below : List Frame} {meth : Method} {c : Code} {A : Nat → Prop} {K : KX} (F : fx_ p s m args meth c cX12_showGroup 9 none RX12 wsX12_showGroup) {k23 : (Int32 × Int32 × Int32 × Int32 × Int32 × Int32 × XS) → Option XS} (hk23 : ∀ t o, k23 t = some o → PMX12_showGroup_0_23 p l e s m args below meth c A K t o) (x1 : Int32) (x2 : Int32) (x3 : Int32) (x4 : Int32) (x6 : Int32) (y0 : Int32) (y1 : Int32) (σ : XS) (o : XS) (hf : fMX12_showGroup_0_209 (kn K) k23 x1 x2 x3 x4 x6 y0 y1 σ = some o) (H : Heap) (locs : List Loc) (ls : Array Slot) (hl : lv_has ls 9 [(0, .ref (ka K 0)), (1, .int x1), (2, .int x2), (3, .int x3), (4, .int x4), (6, .int x6)]) (hW : gw_ (kD K) vwCl (tyM K) (wM K) A s σ H locs) : W p l e rMX12_showGroup_0 s m args below meth c H locs 0 0 (MQ below (gw_Qv (kD K) vwCl (tyM K) (wM K) A o) args s rMX12_showGroup_0.cells rMX12_showGroup_0.slots A) (F0 m 209 ls [.int y0, .int y1]) := by
  have hx := F.1
  have hb := F.2.1
  have hml := F.2.2.2.1
  have hown := F.2.2.2.2.1
  have hts := F.2.2.2.2.2.1
  have hG : ∀ x ∈ gT, x.before args s = true := fun x h => hts x (List.mem_cons_of_mem _ h)
  unfold fMX12_showGroup_0_209 at hf
  refine lv_iadd hx hb dX12_showGroup_209 ?_
  refine lv_istore (lv' := [(5, .int (y1 + y0)), (0, .ref (ka K 0)), (1, .int x1), (2, .int x2), (3, .int x3), (4, .int x4), (6, .int x6)]) hx hb dX12_showGroup_210 hl (by decide) rfl (fun ls hl => ?_)
  refine lv_iinc (v := (x6 + (1 : Int32))) (lv' := [(6, .int (x6 + (1 : Int32))), (5, .int (y1 + y0)), (0, .ref (ka K 0)), (1, .int x1), (2, .int x2), (3, .int x3), (4, .int x4)]) hx hb dX12_showGroup_212 hl (k := 6) rfl rfl (by decide) rfl (fun ls hl => ?_)
  refine lv_goto (tgt := 23) hx hb dX12_showGroup_215 (by decide) ?_
  exact hk23 _ _ hf _ _ _ (lv_sub hl [2, 3, 4, 5, 6, 1, 0] rfl) hW
set_option maxHeartbeats 4000000 in
set_option maxRecDepth 100000 in
theorem wMX12_showGroup_0_208 {p : Program} {l : Launch} {e : Env} {s : State} {m : MethodId} {args : Array Value} {below : List Frame} {meth : Method} {c : Code} {A : Nat → Prop} {K : KX} (F : fx_ p s m args meth c cX12_showGroup 9 none RX12 wsX12_showGroup) {k23 : (Int32 × Int32 × Int32 × Int32 × Int32 × Int32 × XS) → Option XS} (hk23 : ∀ t o, k23 t = some o → PMX12_showGroup_0_23 p l e s m args below meth c A K t o) (x1 : Int32) (x2 : Int32) (x3 : Int32) (x4 : Int32) (x6 : Int32) (y0 : Int32) (σ : XS) (o : XS) (hf : fMX12_showGroup_0_208 (kn K) k23 x1 x2 x3 x4 x6 y0 σ = some o) (H : Heap) (locs : List Loc) (ls : Array Slot) (hl : lv_has ls 9 [(0, .ref (ka K 0)), (1, .int x1), (2, .int x2), (3, .int x3), (4, .int x4), (6, .int x6)]) (hW : gw_ (kD K) vwCl (tyM K) (wM K) A s σ H locs) : W p l e rMX12_showGroup_0 s m args below meth c H locs 0 0 (MQ below (gw_Qv (kD K) vwCl (tyM K) (wM K) A o) args s rMX12_showGroup_0.cells rMX12_showGroup_0.slots A) (F0 m 208 ls [.int y0]) := by
  have hx := F.1
  have hb := F.2.1
  have hml := F.2.2.2.1
  have hown := F.2.2.2.2.1
  have hts := F.2.2.2.2.2.1
  have hG : ∀ x ∈ gT, x.before args s = true := fun x h => hts x (List.mem_cons_of_mem _ h)
  unfold fMX12_showGroup_0_208 at hf
  refine lv_iconst (v := (0 : Int32)) hx hb dX12_showGroup_208 (by decide) ?_
  exact wMX12_showGroup_0_209 F hk23 x1 x2 x3 x4 x6 (0 : Int32) y0 _ _ hf _ _ _ (lv_sub hl [0, 1, 2, 3, 4, 5] rfl) hW
set_option maxHeartbeats 4000000 in
set_option maxRecDepth 100000 in
theorem wMX12_showGroup_0_173 {p : Program} {l : Launch} {e : Env} {s : State} {m : MethodId} {args : Array Value} {below : List Frame} {meth : Method} {c : Code} {A : Nat → Prop} {K : KX} (F : fx_ p s m args meth c cX12_showGroup 9 none RX12 wsX12_showGroup) {k23 : (Int32 × Int32 × Int32 × Int32 × Int32 × Int32 × XS) → Option XS} (hk23 : ∀ t o, k23 t = some o → PMX12_showGroup_0_23 p l e s m args below meth c A K t o) (x1 : Int32) (x2 : Int32) (x3 : Int32) (x4 : Int32) (x5 : Int32) (x6 : Int32) (σ : XS) (o : XS) (hf : fMX12_showGroup_0_173 (kn K) k23 x1 x2 x3 x4 x5 x6 σ = some o) (H : Heap) (locs : List Loc) (ls : Array Slot) (hl : lv_has ls 9 [(0, .ref (ka K 0)), (1, .int x1), (2, .int x2), (3, .int x3), (4, .int x4), (5, .int x5), (6, .int x6)]) (hW : gw_ (kD K) vwCl (tyM K) (wM K) A s σ H locs) : W p l e rMX12_showGroup_0 s m args below meth c H locs 0 0 (MQ below (gw_Qv (kD K) vwCl (tyM K) (wM K) A o) args s rMX12_showGroup_0.cells rMX12_showGroup_0.slots A) (F0 m 173 ls []) := by
  have hx := F.1
  have hb := F.2.1
  have hml := F.2.2.2.1
  have hown := F.2.2.2.2.1
  have hts := F.2.2.2.2.2.1
  have hG : ∀ x ∈ gT, x.before args s = true := fun x h => hts x (List.mem_cons_of_mem _ h)
  unfold fMX12_showGroup_0_173 at hf
  refine lv_iload hx hb dX12_showGroup_173 (lv_at hl 5 rfl) ?_
  refine lv_iload hx hb dX12_showGroup_175 (lv_at hl 6 rfl) ?_
  refine lv_aload_n hx hb dX12_showGroup_177 rfl (lv_at hl 0 rfl) ?_
  refine gw_get (v := .int (σ.1 5)) F inc_X12 hW 0 10 10 (aM_0 K σ) rfl (by decide) (hG _ q_6_122) (fun _ h9 => h9) rfl dX12_showGroup_178 ?_
  refine lv_icmp_ge (tgt := 208) hx hb dX12_showGroup_181 (by decide) (fun c106 => ?_) (fun c106 => ?_)
  · replace hf := (if_pos c106).symm.trans hf
    exact wMX12_showGroup_0_208 F hk23 x1 x2 x3 x4 x6 x5 _ _ hf _ _ _ (lv_sub hl [0, 1, 2, 3, 4, 6] rfl) hW
  · replace hf := (if_neg c106).symm.trans hf
    refine lv_aload_n hx hb dX12_showGroup_184 rfl (lv_at hl 0 rfl) ?_
    refine gw_get (v := .ref (ka K 7)) F inc_X12 hW 0 10 16 (aM_0 K σ) rfl (by decide) (hG _ q_6_128) (fun _ h9 => h9) rfl dX12_showGroup_185 ?_
    refine lv_iload_n hx hb dX12_showGroup_188 rfl (lv_at hl 1 rfl) ?_
    refine lv_aload_n hx hb dX12_showGroup_189 rfl (lv_at hl 0 rfl) ?_
    refine gw_get (v := .int (σ.1 5)) F inc_X12 hW 0 10 10 (aM_0 K σ) rfl (by decide) (hG _ q_6_122) (fun _ h9 => h9) rfl dX12_showGroup_190 ?_
    refine lv_imul hx hb dX12_showGroup_193 ?_
    refine lv_iload hx hb dX12_showGroup_194 (lv_at hl 6 rfl) ?_
    refine lv_iadd hx hb dX12_showGroup_196 ?_
    refine lv_iconst (v := (1 : Int32)) hx hb dX12_showGroup_197 (by decide) ?_
    refine lv_iadd hx hb dX12_showGroup_198 ?_
    rcases Decidable.em ((((x1 * (σ.1 5)) + x6) + (1 : Int32)) < 0 ∨ 2100 ≤ (((x1 * (σ.1 5)) + x6) + (1 : Int32)).toNatClampNeg) with c107 | c107
    · replace hf := (if_pos c107).symm.trans hf
      exact absurd hf (by simp)
    · replace hf := (if_neg c107).symm.trans hf
      refine gw_iald F hW 7 6 (aM_7 K σ) rfl c107 dX12_showGroup_199 ?_
      refine lv_iconst (v := (2 : Int32)) hx hb dX12_showGroup_200 (by decide) ?_
      refine lv_icmp_ne (tgt := 208) hx hb dX12_showGroup_201 (by decide) (fun c108 => ?_) (fun c108 => ?_)
      · replace hf := (if_neg c108).symm.trans hf
        exact wMX12_showGroup_0_208 F hk23 x1 x2 x3 x4 x6 x5 _ _ hf _ _ _ (lv_sub hl [0, 1, 2, 3, 4, 6] rfl) hW
      · replace hf := (if_pos c108).symm.trans hf
        refine lv_iconst (v := (1 : Int32)) hx hb dX12_showGroup_204 (by decide) ?_
        refine lv_goto (tgt := 209) hx hb dX12_showGroup_205 (by decide) ?_
        exact wMX12_showGroup_0_209 F hk23 x1 x2 x3 x4 x6 (1 : Int32) x5 _ _ hf _ _ _ (lv_sub hl [0, 1, 2, 3, 4, 6] rfl) hW
set_option maxHeartbeats 4000000 in
set_option maxRecDepth 100000 in
theorem wMX12_showGroup_0_134 {p : Program} {l : Launch} {e : Env} {s : State} {m : MethodId} {args : Array Value} {below : List Frame} {meth : Method} {c : Code} {A : Nat → Prop} {K : KX} (F : fx_ p s m args meth c cX12_showGroup 9 none RX12 wsX12_showGroup) {k23 : (Int32 × Int32 × Int32 × Int32 × Int32 × Int32 × XS) → Option XS} (hk23 : ∀ t o, k23 t = some o → PMX12_showGroup_0_23 p l e s m args below meth c A K t o) (x1 : Int32) (x2 : Int32) (x3 : Int32) (x4 : Int32) (x5 : Int32) (x6 : Int32) (x8 : Int32) (σ : XS) (o : XS) (hf : fMX12_showGroup_0_134 (kn K) k23 x1 x2 x3 x4 x5 x6 x8 σ = some o) (H : Heap) (locs : List Loc) (ls : Array Slot) (hl : lv_has ls 9 [(0, .ref (ka K 0)), (1, .int x1), (2, .int x2), (3, .int x3), (4, .int x4), (5, .int x5), (6, .int x6), (8, .int x8)]) (hW : gw_ (kD K) vwCl (tyM K) (wM K) A s σ H locs) : W p l e rMX12_showGroup_0 s m args below meth c H locs 0 0 (MQ below (gw_Qv (kD K) vwCl (tyM K) (wM K) A o) args s rMX12_showGroup_0.cells rMX12_showGroup_0.slots A) (F0 m 134 ls []) := by
  have hx := F.1
  have hb := F.2.1
  have hml := F.2.2.2.1
  have hown := F.2.2.2.2.1
  have hts := F.2.2.2.2.2.1
  have hG : ∀ x ∈ gT, x.before args s = true := fun x h => hts x (List.mem_cons_of_mem _ h)
  unfold fMX12_showGroup_0_134 at hf
  refine lv_iload hx hb dX12_showGroup_134 (lv_at hl 7 rfl) ?_
  refine lv_if_eq (tgt := 170) hx hb dX12_showGroup_136 (by decide) (fun c105 => ?_) (fun c105 => ?_)
  · replace hf := (if_pos c105).symm.trans hf
    refine lv_iinc (v := (x4 + (1 : Int32))) (lv' := [(4, .int (x4 + (1 : Int32))), (0, .ref (ka K 0)), (1, .int x1), (2, .int x2), (3, .int x3), (5, .int x5), (6, .int x6), (8, .int x8)]) hx hb dX12_showGroup_170 hl (k := 4) rfl rfl (by decide) rfl (fun ls hl => ?_)
    exact wMX12_showGroup_0_173 F hk23 x1 x2 x3 (x4 + (1 : Int32)) x5 x6 _ _ hf _ _ _ (lv_sub hl [1, 2, 3, 4, 0, 5, 6] rfl) hW
  · replace hf := (if_neg c105).symm.trans hf
    refine lv_aload_n hx hb dX12_showGroup_139 rfl (lv_at hl 0 rfl) ?_
    refine gw_get (v := .ref (ka K 2)) F inc_X12 hW 0 10 3 (aM_0 K σ) rfl (by decide) (hG _ q_6_115) (fun _ h9 => h9) rfl dX12_showGroup_140 ?_
    refine lv_iload_n hx hb dX12_showGroup_143 rfl (lv_at hl 2 rfl) ?_
    refine lv_sipush (v := (1024 : Int32)) hx hb dX12_showGroup_144 (by decide) ?_
    refine lv_iadd hx hb dX12_showGroup_147 ?_
    refine lv_iload hx hb dX12_showGroup_148 (lv_at hl 6 rfl) ?_
    refine lv_bipush (v := (8 : Int32)) hx hb dX12_showGroup_150 (by decide) ?_
    refine lv_idiv hx hb dX12_showGroup_152 (by decide) ?_
    refine lv_iadd hx hb dX12_showGroup_153 ?_
    refine lv_dup2_11 hx hb dX12_showGroup_154 rfl rfl ?_
    rcases Decidable.em (((x2 + (1024 : Int32)) + (x6 / (8 : Int32))) < 0 ∨ 524288 ≤ ((x2 + (1024 : Int32)) + (x6 / (8 : Int32))).toNatClampNeg) with c109 | c109
    · replace hf := (if_pos c109).symm.trans hf
      exact absurd hf (by simp)
    · replace hf := (if_neg c109).symm.trans hf
      refine gw_bald F hW 2 1 (aM_2 K σ) rfl c109 dX12_showGroup_155 ?_
      refine lv_iconst (v := (1 : Int32)) hx hb dX12_showGroup_156 (by decide) ?_
      refine lv_iload hx hb dX12_showGroup_157 (lv_at hl 6 rfl) ?_
      refine lv_bipush (v := (8 : Int32)) hx hb dX12_showGroup_159 (by decide) ?_
      refine lv_irem hx hb dX12_showGroup_161 (by decide) ?_
      refine lv_ishl hx hb dX12_showGroup_162 ?_
      refine lv_i2b (v := ((1 : Int32) <<< ((x6 - x6 / (8 : Int32) * (8 : Int32)) &&& 31)).toInt8.toInt32) hx hb dX12_showGroup_163 rfl ?_
      refine lv_ior hx hb dX12_showGroup_164 ?_
      refine lv_i2b (v := ((σ.2.1 1 ((x2 + (1024 : Int32)) + (x6 / (8 : Int32))).toNatClampNeg) ||| ((1 : Int32) <<< ((x6 - x6 / (8 : Int32) * (8 : Int32)) &&& 31)).toInt8.toInt32).toInt8.toInt32) hx hb dX12_showGroup_165 rfl ?_
      rcases Decidable.em (((x2 + (1024 : Int32)) + (x6 / (8 : Int32))) < 0 ∨ 524288 ≤ ((x2 + (1024 : Int32)) + (x6 / (8 : Int32))).toNatClampNeg) with c110 | c110
      · replace hf := (if_pos c110).symm.trans hf
        exact absurd hf (by simp)
      · replace hf := (if_neg c110).symm.trans hf
        refine gw_bast (σ' := (stA σ 1 ((x2 + (1024 : Int32)) + (x6 / (8 : Int32))).toNatClampNeg (vp_nar .byte (((σ.2.1 1 ((x2 + (1024 : Int32)) + (x6 / (8 : Int32))).toNatClampNeg) ||| ((1 : Int32) <<< ((x6 - x6 / (8 : Int32) * (8 : Int32)) &&& 31)).toInt8.toInt32).toInt8.toInt32)))) F hW 2 1 (aM_2 K σ) rfl c110 dX12_showGroup_166 (sAM_1 _ _ _) (fun H locs hW => ?_)
        refine lv_goto (tgt := 173) hx hb dX12_showGroup_167 (by decide) ?_
        exact wMX12_showGroup_0_173 F hk23 x1 x2 x3 x4 x5 x6 _ _ hf _ _ _ (lv_sub hl [0, 1, 2, 3, 4, 5, 6] rfl) hW
set_option maxHeartbeats 4000000 in
set_option maxRecDepth 100000 in
theorem wMX12_showGroup_0_97 {p : Program} {l : Launch} {e : Env} {s : State} {m : MethodId} {args : Array Value} {below : List Frame} {meth : Method} {c : Code} {A : Nat → Prop} {K : KX} (F : fx_ p s m args meth c cX12_showGroup 9 none RX12 wsX12_showGroup) {k23 : (Int32 × Int32 × Int32 × Int32 × Int32 × Int32 × XS) → Option XS} (hk23 : ∀ t o, k23 t = some o → PMX12_showGroup_0_23 p l e s m args below meth c A K t o) (x1 : Int32) (x2 : Int32) (x3 : Int32) (x4 : Int32) (x5 : Int32) (x6 : Int32) (x7 : Int32) (y0 : Int32) (σ : XS) (o : XS) (hf : fMX12_showGroup_0_97 (kn K) k23 x1 x2 x3 x4 x5 x6 x7 y0 σ = some o) (H : Heap) (locs : List Loc) (ls : Array Slot) (hl : lv_has ls 9 [(0, .ref (ka K 0)), (1, .int x1), (2, .int x2), (3, .int x3), (4, .int x4), (5, .int x5), (6, .int x6), (7, .int x7)]) (hW : gw_ (kD K) vwCl (tyM K) (wM K) A s σ H locs) : W p l e rMX12_showGroup_0 s m args below meth c H locs 0 0 (MQ below (gw_Qv (kD K) vwCl (tyM K) (wM K) A o) args s rMX12_showGroup_0.cells rMX12_showGroup_0.slots A) (F0 m 97 ls [.int y0]) := by
  have hx := F.1
  have hb := F.2.1
  have hml := F.2.2.2.1
  have hown := F.2.2.2.2.1
  have hts := F.2.2.2.2.2.1
  have hG : ∀ x ∈ gT, x.before args s = true := fun x h => hts x (List.mem_cons_of_mem _ h)
  unfold fMX12_showGroup_0_97 at hf
  refine lv_istore (lv' := [(8, .int y0), (0, .ref (ka K 0)), (1, .int x1), (2, .int x2), (3, .int x3), (4, .int x4), (5, .int x5), (6, .int x6), (7, .int x7)]) hx hb dX12_showGroup_97 hl (by decide) rfl (fun ls hl => ?_)
  refine lv_iload hx hb dX12_showGroup_99 (lv_at hl 8 rfl) ?_
  refine lv_if_eq (tgt := 131) hx hb dX12_showGroup_101 (by decide) (fun c104 => ?_) (fun c104 => ?_)
  · replace hf := (if_pos c104).symm.trans hf
    refine lv_iinc (v := (x3 + (1 : Int32))) (lv' := [(3, .int (x3 + (1 : Int32))), (8, .int y0), (0, .ref (ka K 0)), (1, .int x1), (2, .int x2), (4, .int x4), (5, .int x5), (6, .int x6), (7, .int x7)]) hx hb dX12_showGroup_131 hl (k := 4) rfl rfl (by decide) rfl (fun ls hl => ?_)
    exact wMX12_showGroup_0_134 F hk23 x1 x2 (x3 + (1 : Int32)) x4 x5 x6 y0 _ _ hf _ _ _ (lv_sub hl [2, 3, 4, 0, 5, 6, 7, 1] rfl) hW
  · replace hf := (if_neg c104).symm.trans hf
    refine lv_aload_n hx hb dX12_showGroup_104 rfl (lv_at hl 1 rfl) ?_
    refine gw_get (v := .ref (ka K 2)) F inc_X12 hW 0 10 3 (aM_0 K σ) rfl (by decide) (hG _ q_6_115) (fun _ h9 => h9) rfl dX12_showGroup_105 ?_
    refine lv_iload_n hx hb dX12_showGroup_108 rfl (lv_at hl 3 rfl) ?_
    refine lv_iload hx hb dX12_showGroup_109 (lv_at hl 7 rfl) ?_
    refine lv_bipush (v := (8 : Int32)) hx hb dX12_showGroup_111 (by decide) ?_
    refine lv_idiv hx hb dX12_showGroup_113 (by decide) ?_
    refine lv_iadd hx hb dX12_showGroup_114 ?_
    refine lv_dup2_11 hx hb dX12_showGroup_115 rfl rfl ?_
    rcases Decidable.em ((x2 + (x6 / (8 : Int32))) < 0 ∨ 524288 ≤ (x2 + (x6 / (8 : Int32))).toNatClampNeg) with c111 | c111
    · replace hf := (if_pos c111).symm.trans hf
      exact absurd hf (by simp)
    · replace hf := (if_neg c111).symm.trans hf
      refine gw_bald F hW 2 1 (aM_2 K σ) rfl c111 dX12_showGroup_116 ?_
      refine lv_iconst (v := (1 : Int32)) hx hb dX12_showGroup_117 (by decide) ?_
      refine lv_iload hx hb dX12_showGroup_118 (lv_at hl 7 rfl) ?_
      refine lv_bipush (v := (8 : Int32)) hx hb dX12_showGroup_120 (by decide) ?_
      refine lv_irem hx hb dX12_showGroup_122 (by decide) ?_
      refine lv_ishl hx hb dX12_showGroup_123 ?_
      refine lv_i2b (v := ((1 : Int32) <<< ((x6 - x6 / (8 : Int32) * (8 : Int32)) &&& 31)).toInt8.toInt32) hx hb dX12_showGroup_124 rfl ?_
      refine lv_ior hx hb dX12_showGroup_125 ?_
      refine lv_i2b (v := ((σ.2.1 1 (x2 + (x6 / (8 : Int32))).toNatClampNeg) ||| ((1 : Int32) <<< ((x6 - x6 / (8 : Int32) * (8 : Int32)) &&& 31)).toInt8.toInt32).toInt8.toInt32) hx hb dX12_showGroup_126 rfl ?_
      rcases Decidable.em ((x2 + (x6 / (8 : Int32))) < 0 ∨ 524288 ≤ (x2 + (x6 / (8 : Int32))).toNatClampNeg) with c112 | c112
      · replace hf := (if_pos c112).symm.trans hf
        exact absurd hf (by simp)
      · replace hf := (if_neg c112).symm.trans hf
        refine gw_bast (σ' := (stA σ 1 (x2 + (x6 / (8 : Int32))).toNatClampNeg (vp_nar .byte (((σ.2.1 1 (x2 + (x6 / (8 : Int32))).toNatClampNeg) ||| ((1 : Int32) <<< ((x6 - x6 / (8 : Int32) * (8 : Int32)) &&& 31)).toInt8.toInt32).toInt8.toInt32)))) F hW 2 1 (aM_2 K σ) rfl c112 dX12_showGroup_127 (sAM_1 _ _ _) (fun H locs hW => ?_)
        refine lv_goto (tgt := 134) hx hb dX12_showGroup_128 (by decide) ?_
        exact wMX12_showGroup_0_134 F hk23 x1 x2 x3 x4 x5 x6 y0 _ _ hf _ _ _ (lv_sub hl [1, 2, 3, 4, 5, 6, 7, 0] rfl) hW
set_option maxHeartbeats 4000000 in
set_option maxRecDepth 100000 in
theorem wMX12_showGroup_0_92 {p : Program} {l : Launch} {e : Env} {s : State} {m : MethodId} {args : Array Value} {below : List Frame} {meth : Method} {c : Code} {A : Nat → Prop} {K : KX} (F : fx_ p s m args meth c cX12_showGroup 9 none RX12 wsX12_showGroup) {k23 : (Int32 × Int32 × Int32 × Int32 × Int32 × Int32 × XS) → Option XS} (hk23 : ∀ t o, k23 t = some o → PMX12_showGroup_0_23 p l e s m args below meth c A K t o) (x1 : Int32) (x2 : Int32) (x3 : Int32) (x4 : Int32) (x5 : Int32) (x6 : Int32) (x7 : Int32) (σ : XS) (o : XS) (hf : fMX12_showGroup_0_92 (kn K) k23 x1 x2 x3 x4 x5 x6 x7 σ = some o) (H : Heap) (locs : List Loc) (ls : Array Slot) (hl : lv_has ls 9 [(0, .ref (ka K 0)), (1, .int x1), (2, .int x2), (3, .int x3), (4, .int x4), (5, .int x5), (6, .int x6), (7, .int x7)]) (hW : gw_ (kD K) vwCl (tyM K) (wM K) A s σ H locs) : W p l e rMX12_showGroup_0 s m args below meth c H locs 0 0 (MQ below (gw_Qv (kD K) vwCl (tyM K) (wM K) A o) args s rMX12_showGroup_0.cells rMX12_showGroup_0.slots A) (F0 m 92 ls []) := by
  have hx := F.1
  have hb := F.2.1
  have hml := F.2.2.2.1
  have hown := F.2.2.2.2.1
  have hts := F.2.2.2.2.2.1
  have hG : ∀ x ∈ gT, x.before args s = true := fun x h => hts x (List.mem_cons_of_mem _ h)
  unfold fMX12_showGroup_0_92 at hf
  refine lv_iconst (v := (1 : Int32)) hx hb dX12_showGroup_92 (by decide) ?_
  refine lv_goto (tgt := 97) hx hb dX12_showGroup_93 (by decide) ?_
  exact wMX12_showGroup_0_97 F hk23 x1 x2 x3 x4 x5 x6 x7 (1 : Int32) _ _ hf _ _ _ (lv_sub hl [0, 1, 2, 3, 4, 5, 6, 7] rfl) hW
set_option maxHeartbeats 4000000 in
set_option maxRecDepth 100000 in
theorem wMX12_showGroup_0_62 {p : Program} {l : Launch} {e : Env} {s : State} {m : MethodId} {args : Array Value} {below : List Frame} {meth : Method} {c : Code} {A : Nat → Prop} {K : KX} (F : fx_ p s m args meth c cX12_showGroup 9 none RX12 wsX12_showGroup) {k23 : (Int32 × Int32 × Int32 × Int32 × Int32 × Int32 × XS) → Option XS} (hk23 : ∀ t o, k23 t = some o → PMX12_showGroup_0_23 p l e s m args below meth c A K t o) (x1 : Int32) (x2 : Int32) (x3 : Int32) (x4 : Int32) (x5 : Int32) (x6 : Int32) (y0 : Int32) (σ : XS) (o : XS) (hf : fMX12_showGroup_0_62 (kn K) k23 x1 x2 x3 x4 x5 x6 y0 σ = some o) (H : Heap) (locs : List Loc) (ls : Array Slot) (hl : lv_has ls 9 [(0, .ref (ka K 0)), (1, .int x1), (2, .int x2), (3, .int x3), (4, .int x4), (5, .int x5), (6, .int x6)]) (hW : gw_ (kD K) vwCl (tyM K) (wM K) A s σ H locs) : W p l e rMX12_showGroup_0 s m args below meth c H locs 0 0 (MQ below (gw_Qv (kD K) vwCl (tyM K) (wM K) A o) args s rMX12_showGroup_0.cells rMX12_showGroup_0.slots A) (F0 m 62 ls [.int y0]) := by
  have hx := F.1
  have hb := F.2.1
  have hml := F.2.2.2.1
  have hown := F.2.2.2.2.1
  have hts := F.2.2.2.2.2.1
  have hG : ∀ x ∈ gT, x.before args s = true := fun x h => hts x (List.mem_cons_of_mem _ h)
  unfold fMX12_showGroup_0_62 at hf
  refine lv_istore (lv' := [(7, .int y0), (0, .ref (ka K 0)), (1, .int x1), (2, .int x2), (3, .int x3), (4, .int x4), (5, .int x5), (6, .int x6)]) hx hb dX12_showGroup_62 hl (by decide) rfl (fun ls hl => ?_)
  refine lv_iload hx hb dX12_showGroup_64 (lv_at hl 7 rfl) ?_
  refine lv_aload_n hx hb dX12_showGroup_66 rfl (lv_at hl 1 rfl) ?_
  refine gw_get (v := .int (σ.1 5)) F inc_X12 hW 0 10 10 (aM_0 K σ) rfl (by decide) (hG _ q_6_122) (fun _ h9 => h9) rfl dX12_showGroup_67 ?_
  refine lv_icmp_ge (tgt := 92) hx hb dX12_showGroup_70 (by decide) (fun c103 => ?_) (fun c103 => ?_)
  · replace hf := (if_pos c103).symm.trans hf
    exact wMX12_showGroup_0_92 F hk23 x1 x2 x3 x4 x5 x6 y0 _ _ hf _ _ _ (lv_sub hl [1, 2, 3, 4, 5, 6, 7, 0] rfl) hW
  · replace hf := (if_neg c103).symm.trans hf
    refine lv_aload_n hx hb dX12_showGroup_73 rfl (lv_at hl 1 rfl) ?_
    refine gw_get (v := .ref (ka K 7)) F inc_X12 hW 0 10 16 (aM_0 K σ) rfl (by decide) (hG _ q_6_128) (fun _ h9 => h9) rfl dX12_showGroup_74 ?_
    refine lv_iload_n hx hb dX12_showGroup_77 rfl (lv_at hl 2 rfl) ?_
    refine lv_aload_n hx hb dX12_showGroup_78 rfl (lv_at hl 1 rfl) ?_
    refine gw_get (v := .int (σ.1 5)) F inc_X12 hW 0 10 10 (aM_0 K σ) rfl (by decide) (hG _ q_6_122) (fun _ h9 => h9) rfl dX12_showGroup_79 ?_
    refine lv_imul hx hb dX12_showGroup_82 ?_
    refine lv_iload hx hb dX12_showGroup_83 (lv_at hl 7 rfl) ?_
    refine lv_iadd hx hb dX12_showGroup_85 ?_
    refine lv_iconst (v := (1 : Int32)) hx hb dX12_showGroup_86 (by decide) ?_
    refine lv_iadd hx hb dX12_showGroup_87 ?_
    rcases Decidable.em ((((x1 * (σ.1 5)) + x6) + (1 : Int32)) < 0 ∨ 2100 ≤ (((x1 * (σ.1 5)) + x6) + (1 : Int32)).toNatClampNeg) with c113 | c113
    · replace hf := (if_pos c113).symm.trans hf
      exact absurd hf (by simp)
    · replace hf := (if_neg c113).symm.trans hf
      refine gw_iald F hW 7 6 (aM_7 K σ) rfl c113 dX12_showGroup_88 ?_
      refine lv_if_eq (tgt := 96) hx hb dX12_showGroup_89 (by decide) (fun c114 => ?_) (fun c114 => ?_)
      · replace hf := (if_pos c114).symm.trans hf
        refine lv_iconst (v := (0 : Int32)) hx hb dX12_showGroup_96 (by decide) ?_
        exact wMX12_showGroup_0_97 F hk23 x1 x2 x3 x4 x5 x6 y0 (0 : Int32) _ _ hf _ _ _ (lv_sub hl [1, 2, 3, 4, 5, 6, 7, 0] rfl) hW
      · replace hf := (if_neg c114).symm.trans hf
        exact wMX12_showGroup_0_92 F hk23 x1 x2 x3 x4 x5 x6 y0 _ _ hf _ _ _ (lv_sub hl [1, 2, 3, 4, 5, 6, 7, 0] rfl) hW
set_option maxHeartbeats 4000000 in
set_option maxRecDepth 100000 in
theorem wMX12_showGroup_0_57 {p : Program} {l : Launch} {e : Env} {s : State} {m : MethodId} {args : Array Value} {below : List Frame} {meth : Method} {c : Code} {A : Nat → Prop} {K : KX} (F : fx_ p s m args meth c cX12_showGroup 9 none RX12 wsX12_showGroup) {k23 : (Int32 × Int32 × Int32 × Int32 × Int32 × Int32 × XS) → Option XS} (hk23 : ∀ t o, k23 t = some o → PMX12_showGroup_0_23 p l e s m args below meth c A K t o) (x1 : Int32) (x2 : Int32) (x3 : Int32) (x4 : Int32) (x5 : Int32) (x6 : Int32) (σ : XS) (o : XS) (hf : fMX12_showGroup_0_57 (kn K) k23 x1 x2 x3 x4 x5 x6 σ = some o) (H : Heap) (locs : List Loc) (ls : Array Slot) (hl : lv_has ls 9 [(0, .ref (ka K 0)), (1, .int x1), (2, .int x2), (3, .int x3), (4, .int x4), (5, .int x5), (6, .int x6)]) (hW : gw_ (kD K) vwCl (tyM K) (wM K) A s σ H locs) : W p l e rMX12_showGroup_0 s m args below meth c H locs 0 0 (MQ below (gw_Qv (kD K) vwCl (tyM K) (wM K) A o) args s rMX12_showGroup_0.cells rMX12_showGroup_0.slots A) (F0 m 57 ls []) := by
  have hx := F.1
  have hb := F.2.1
  have hml := F.2.2.2.1
  have hown := F.2.2.2.2.1
  have hts := F.2.2.2.2.2.1
  have hG : ∀ x ∈ gT, x.before args s = true := fun x h => hts x (List.mem_cons_of_mem _ h)
  unfold fMX12_showGroup_0_57 at hf
  refine lv_iconst (v := (1 : Int32)) hx hb dX12_showGroup_57 (by decide) ?_
  refine lv_goto (tgt := 62) hx hb dX12_showGroup_58 (by decide) ?_
  exact wMX12_showGroup_0_62 F hk23 x1 x2 x3 x4 x5 x6 (1 : Int32) _ _ hf _ _ _ (lv_sub hl [0, 1, 2, 3, 4, 5, 6] rfl) hW
set_option maxHeartbeats 4000000 in
set_option maxRecDepth 100000 in
theorem wMX12_showGroup_0_23 {p : Program} {l : Launch} {e : Env} {s : State} {m : MethodId} {args : Array Value} {below : List Frame} {meth : Method} {c : Code} {A : Nat → Prop} {K : KX} (F : fx_ p s m args meth c cX12_showGroup 9 none RX12 wsX12_showGroup) {k23 : (Int32 × Int32 × Int32 × Int32 × Int32 × Int32 × XS) → Option XS} (hk23 : ∀ t o, k23 t = some o → PMX12_showGroup_0_23 p l e s m args below meth c A K t o) (x1 : Int32) (x2 : Int32) (x3 : Int32) (x4 : Int32) (x5 : Int32) (x6 : Int32) (σ : XS) (o : XS) (hf : fMX12_showGroup_0_23 (kn K) k23 x1 x2 x3 x4 x5 x6 σ = some o) (H : Heap) (locs : List Loc) (ls : Array Slot) (hl : lv_has ls 9 [(0, .ref (ka K 0)), (1, .int x1), (2, .int x2), (3, .int x3), (4, .int x4), (5, .int x5), (6, .int x6)]) (hW : gw_ (kD K) vwCl (tyM K) (wM K) A s σ H locs) : W p l e rMX12_showGroup_0 s m args below meth c H locs 0 0 (MQ below (gw_Qv (kD K) vwCl (tyM K) (wM K) A o) args s rMX12_showGroup_0.cells rMX12_showGroup_0.slots A) (F0 m 23 ls []) := by
  have hx := F.1
  have hb := F.2.1
  have hml := F.2.2.2.1
  have hown := F.2.2.2.2.1
  have hts := F.2.2.2.2.2.1
  have hG : ∀ x ∈ gT, x.before args s = true := fun x h => hts x (List.mem_cons_of_mem _ h)
  unfold fMX12_showGroup_0_23 at hf
  refine lv_iload hx hb dX12_showGroup_23 (lv_at hl 6 rfl) ?_
  refine lv_sipush (v := (8192 : Int32)) hx hb dX12_showGroup_25 (by decide) ?_
  refine lv_icmp_ge (tgt := 218) hx hb dX12_showGroup_28 (by decide) (fun c4 => ?_) (fun c4 => ?_)
  · replace hf := (if_pos c4).symm.trans hf
    refine lv_iconst (v := (0 : Int32)) hx hb dX12_showGroup_218 (by decide) ?_
    refine lv_istore (lv' := [(6, .int (0 : Int32)), (0, .ref (ka K 0)), (1, .int x1), (2, .int x2), (3, .int x3), (4, .int x4), (5, .int x5)]) hx hb dX12_showGroup_219 hl (by decide) rfl (fun ls hl => ?_)
    exact lfix_ind (P := PMX12_showGroup_0_221 p l e s m args below meth c A K) (fun k221 hk221 t o hf => wMX12_showGroup_0_221 F hk221 t.1 t.2.1 t.2.2.1 t.2.2.2.1 t.2.2.2.2.1 t.2.2.2.2.2 o hf) FU _ _ hf _ _ _ (lv_sub hl [1, 2, 4, 5, 6, 0] rfl) hW
  · replace hf := (if_neg c4).symm.trans hf
    refine lv_iload hx hb dX12_showGroup_31 (lv_at hl 6 rfl) ?_
    refine lv_aload_n hx hb dX12_showGroup_33 rfl (lv_at hl 0 rfl) ?_
    refine lv_iload_n hx hb dX12_showGroup_34 rfl (lv_at hl 1 rfl) ?_
    obtain ⟨o99, h100, hf⟩ := gw_bind hf
    refine gw_Vi (As := [.int x1]) (mc' := 0) (ms' := 0) F hW (mMX12_room_0 h100) (cwV 1 hts (gT_V q_7_41 q_7_43 qp_46 q_1_12 q_7_44) rfl rfl rfl hdX12_room ⟨Nat.le_of_ble_eq_true rfl, Nat.le_of_ble_eq_true rfl⟩) 0 10 (aM_0 K σ) rfl rfl hl.1 rfl (Nat.le_of_ble_eq_true rfl) dX12_showGroup_35 ⟨Nat.le_of_ble_eq_true rfl, Nat.le_of_ble_eq_true rfl⟩ rfl rfl (fun H locs hW => ?_)
    refine lv_icmp_ge (tgt := 57) hx hb dX12_showGroup_38 (by decide) (fun c102 => ?_) (fun c102 => ?_)
    · replace hf := (if_pos c102).symm.trans hf
      exact wMX12_showGroup_0_57 F hk23 x1 x2 x3 x4 x5 x6 _ _ hf _ _ _ (lv_sub hl [0, 1, 2, 3, 4, 5, 6] rfl) hW
    · replace hf := (if_neg c102).symm.trans hf
      refine lv_aload_n hx hb dX12_showGroup_41 rfl (lv_at hl 0 rfl) ?_
      refine gw_get (v := .ref (ka K 5)) F inc_X12 hW 0 10 14 (aM_0 K o99.2) rfl (by decide) (hG _ q_6_126) (fun _ h9 => h9) rfl dX12_showGroup_42 ?_
      refine lv_aload_n hx hb dX12_showGroup_45 rfl (lv_at hl 0 rfl) ?_
      refine lv_iload_n hx hb dX12_showGroup_46 rfl (lv_at hl 1 rfl) ?_
      obtain ⟨o115, h116, hf⟩ := gw_bind hf
      refine gw_Vi (As := [.int x1]) (mc' := 0) (ms' := 0) F hW (mMX12_begin_0 h116) (cwV 1 hts (gT_V q_7_37 q_7_39 qp_45 q_1_12 q_7_40) rfl rfl rfl hdX12_begin ⟨Nat.le_of_ble_eq_true rfl, Nat.le_of_ble_eq_true rfl⟩) 0 10 (aM_0 K o99.2) rfl rfl hl.1 rfl (Nat.le_of_ble_eq_true rfl) dX12_showGroup_47 ⟨Nat.le_of_ble_eq_true rfl, Nat.le_of_ble_eq_true rfl⟩ rfl rfl (fun H locs hW => ?_)
      refine lv_iload hx hb dX12_showGroup_50 (lv_at hl 6 rfl) ?_
      refine lv_iadd hx hb dX12_showGroup_52 ?_
      rcases Decidable.em ((o115.1 + x6) < 0 ∨ 512 ≤ (o115.1 + x6).toNatClampNeg) with c118 | c118
      · replace hf := (if_pos c118).symm.trans hf
        exact absurd hf (by simp)
      · replace hf := (if_neg c118).symm.trans hf
        refine gw_zald F hW 5 4 (aM_5 K o115.2) rfl c118 dX12_showGroup_53 ?_
        refine lv_if_eq (tgt := 61) hx hb dX12_showGroup_54 (by decide) (fun c119 => ?_) (fun c119 => ?_)
        · replace hf := (if_pos c119).symm.trans hf
          refine lv_iconst (v := (0 : Int32)) hx hb dX12_showGroup_61 (by decide) ?_
          exact wMX12_showGroup_0_62 F hk23 x1 x2 x3 x4 x5 x6 (0 : Int32) _ _ hf _ _ _ (lv_sub hl [0, 1, 2, 3, 4, 5, 6] rfl) hW
        · replace hf := (if_neg c119).symm.trans hf
          exact wMX12_showGroup_0_57 F hk23 x1 x2 x3 x4 x5 x6 _ _ hf _ _ _ (lv_sub hl [0, 1, 2, 3, 4, 5, 6] rfl) hW
set_option maxHeartbeats 4000000 in
set_option maxRecDepth 100000 in
theorem wMX12_showGroup_0_0 {p : Program} {l : Launch} {e : Env} {s : State} {m : MethodId} {args : Array Value} {below : List Frame} {meth : Method} {c : Code} {A : Nat → Prop} {K : KX} (F : fx_ p s m args meth c cX12_showGroup 9 none RX12 wsX12_showGroup) (x1 : Int32) (σ : XS) (o : XS) (hf : fMX12_showGroup_0_0 (kn K) x1 σ = some o) (H : Heap) (locs : List Loc) (ls : Array Slot) (hl : lv_has ls 9 [(0, .ref (ka K 0)), (1, .int x1)]) (hW : gw_ (kD K) vwCl (tyM K) (wM K) A s σ H locs) : W p l e rMX12_showGroup_0 s m args below meth c H locs 0 0 (MQ below (gw_Qv (kD K) vwCl (tyM K) (wM K) A o) args s rMX12_showGroup_0.cells rMX12_showGroup_0.slots A) (F0 m 0 ls []) := by
  have hx := F.1
  have hb := F.2.1
  have hml := F.2.2.2.1
  have hown := F.2.2.2.2.1
  have hts := F.2.2.2.2.2.1
  have hG : ∀ x ∈ gT, x.before args s = true := fun x h => hts x (List.mem_cons_of_mem _ h)
  unfold fMX12_showGroup_0_0 at hf
  refine lv_sipush (v := (1024 : Int32)) hx hb dX12_showGroup_0 (by decide) ?_
  refine lv_aload_n hx hb dX12_showGroup_3 rfl (lv_at hl 0 rfl) ?_
  refine lv_iload_n hx hb dX12_showGroup_4 rfl (lv_at hl 1 rfl) ?_
  obtain ⟨o1, h2, hf⟩ := gw_bind hf
  refine gw_Vi (As := [.int x1]) (mc' := 0) (ms' := 0) F hW (mMX12_begin_0 h2) (cwV 1 hts (gT_V q_7_37 q_7_39 qp_45 q_1_12 q_7_40) rfl rfl rfl hdX12_begin ⟨Nat.le_of_ble_eq_true rfl, Nat.le_of_ble_eq_true rfl⟩) 0 10 (aM_0 K σ) rfl rfl hl.1 rfl (Nat.le_of_ble_eq_true rfl) dX12_showGroup_5 ⟨Nat.le_of_ble_eq_true rfl, Nat.le_of_ble_eq_true rfl⟩ rfl rfl (fun H locs hW => ?_)
  refine lv_iconst (v := (2 : Int32)) hx hb dX12_showGroup_8 (by decide) ?_
  refine lv_iadd hx hb dX12_showGroup_9 ?_
  refine lv_imul hx hb dX12_showGroup_10 ?_
  refine lv_istore_n (lv' := [(2, .int ((1024 : Int32) * (o1.1 + (2 : Int32)))), (0, .ref (ka K 0)), (1, .int x1)]) hx hb dX12_showGroup_11 rfl hl (by decide) rfl (fun ls hl => ?_)
  refine lv_iconst (v := (0 : Int32)) hx hb dX12_showGroup_12 (by decide) ?_
  refine lv_istore_n (lv' := [(3, .int (0 : Int32)), (2, .int ((1024 : Int32) * (o1.1 + (2 : Int32)))), (0, .ref (ka K 0)), (1, .int x1)]) hx hb dX12_showGroup_13 rfl hl (by decide) rfl (fun ls hl => ?_)
  refine lv_iconst (v := (0 : Int32)) hx hb dX12_showGroup_14 (by decide) ?_
  refine lv_istore (lv' := [(4, .int (0 : Int32)), (3, .int (0 : Int32)), (2, .int ((1024 : Int32) * (o1.1 + (2 : Int32)))), (0, .ref (ka K 0)), (1, .int x1)]) hx hb dX12_showGroup_15 hl (by decide) rfl (fun ls hl => ?_)
  refine lv_iconst (v := (0 : Int32)) hx hb dX12_showGroup_17 (by decide) ?_
  refine lv_istore (lv' := [(5, .int (0 : Int32)), (4, .int (0 : Int32)), (3, .int (0 : Int32)), (2, .int ((1024 : Int32) * (o1.1 + (2 : Int32)))), (0, .ref (ka K 0)), (1, .int x1)]) hx hb dX12_showGroup_18 hl (by decide) rfl (fun ls hl => ?_)
  refine lv_iconst (v := (0 : Int32)) hx hb dX12_showGroup_20 (by decide) ?_
  refine lv_istore (lv' := [(6, .int (0 : Int32)), (5, .int (0 : Int32)), (4, .int (0 : Int32)), (3, .int (0 : Int32)), (2, .int ((1024 : Int32) * (o1.1 + (2 : Int32)))), (0, .ref (ka K 0)), (1, .int x1)]) hx hb dX12_showGroup_21 hl (by decide) rfl (fun ls hl => ?_)
  exact lfix_ind (P := PMX12_showGroup_0_23 p l e s m args below meth c A K) (fun k23 hk23 t o hf => wMX12_showGroup_0_23 F hk23 t.1 t.2.1 t.2.2.1 t.2.2.2.1 t.2.2.2.2.1 t.2.2.2.2.2.1 t.2.2.2.2.2.2 o hf) FU _ _ hf _ _ _ (lv_sub hl [5, 6, 4, 3, 2, 1, 0] rfl) hW
set_option maxHeartbeats 4000000 in
set_option maxRecDepth 100000 in
theorem mMX12_showGroup_0 {l : Launch} {K : KX} {σ : XS} {x1 : Int32} {o : XS} (hf : fMX12_showGroup_0 (kn K) x1 σ = some o) : gw_Mv l (kD K) vwCl (tyM K) (wM K) yX12_showGroup wsX12_showGroup rMX12_showGroup_0 [.ref (ka K 0), .int x1] σ o := by
  intro sz
  refine gw_body (cc := cX12_showGroup) (maxL := 9) (yret := none) (by decide +kernel) rfl ?_ (Nat.le_of_ble_eq_true rfl)
  intro p e s m below meth c F hsz hW ls hl
  exact wMX12_showGroup_0_0 F x1 σ o hf s.heap [] ls hl hW
abbrev rMX12_show_0 : Room := { frames := 3, cells := 0, slots := 0, locals := 70 }
def PMX12_show_0_63 (p : Program) (l : Launch) (e : Env) (s : State) (m : MethodId) (args : Array Value) (below : List Frame) (meth : Method) (c : Code) (A : Nat → Prop) (K : KX) (t : (Int32 × XS)) (o : XS) : Prop := ∀ (H : Heap) (locs : List Loc) (ls : Array Slot), lv_has ls 2 [(0, .ref (ka K 0)), (1, .int t.1)] → gw_ (kD K) vwCl (tyM K) (wM K) A s t.2 H locs → W p l e rMX12_show_0 s m args below meth c H locs 0 0 (MQ below (gw_Qv (kD K) vwCl (tyM K) (wM K) A o) args s rMX12_show_0.cells rMX12_show_0.slots A) (F0 m 63 ls [])
def PMX12_show_0_42 (p : Program) (l : Launch) (e : Env) (s : State) (m : MethodId) (args : Array Value) (below : List Frame) (meth : Method) (c : Code) (A : Nat → Prop) (K : KX) (t : (Int32 × XS)) (o : XS) : Prop := ∀ (H : Heap) (locs : List Loc) (ls : Array Slot), lv_has ls 2 [(0, .ref (ka K 0)), (1, .int t.1)] → gw_ (kD K) vwCl (tyM K) (wM K) A s t.2 H locs → W p l e rMX12_show_0 s m args below meth c H locs 0 0 (MQ below (gw_Qv (kD K) vwCl (tyM K) (wM K) A o) args s rMX12_show_0.cells rMX12_show_0.slots A) (F0 m 42 ls [])
def PMX12_show_0_15 (p : Program) (l : Launch) (e : Env) (s : State) (m : MethodId) (args : Array Value) (below : List Frame) (meth : Method) (c : Code) (A : Nat → Prop) (K : KX) (t : (Int32 × XS)) (o : XS) : Prop := ∀ (H : Heap) (locs : List Loc) (ls : Array Slot), lv_has ls 2 [(0, .ref (ka K 0)), (1, .int t.1)] → gw_ (kD K) vwCl (tyM K) (wM K) A s t.2 H locs → W p l e rMX12_show_0 s m args below meth c H locs 0 0 (MQ below (gw_Qv (kD K) vwCl (tyM K) (wM K) A o) args s rMX12_show_0.cells rMX12_show_0.slots A) (F0 m 15 ls [])
set_option maxHeartbeats 4000000 in
set_option maxRecDepth 100000 in
theorem wMX12_show_0_101 {p : Program} {l : Launch} {e : Env} {s : State} {m : MethodId} {args : Array Value} {below : List Frame} {meth : Method} {c : Code} {A : Nat → Prop} {K : KX} (F : fx_ p s m args meth c cX12_show 2 none RX12 wsX12_show) {k63 : (Int32 × XS) → Option XS} (hk63 : ∀ t o, k63 t = some o → PMX12_show_0_63 p l e s m args below meth c A K t o) (x1 : Int32) (σ : XS) (o : XS) (hf : fMX12_show_0_101 (kn K) k63 x1 σ = some o) (H : Heap) (locs : List Loc) (ls : Array Slot) (hl : lv_has ls 2 [(0, .ref (ka K 0)), (1, .int x1)]) (hW : gw_ (kD K) vwCl (tyM K) (wM K) A s σ H locs) : W p l e rMX12_show_0 s m args below meth c H locs 0 0 (MQ below (gw_Qv (kD K) vwCl (tyM K) (wM K) A o) args s rMX12_show_0.cells rMX12_show_0.slots A) (F0 m 101 ls []) := by
  have hx := F.1
  have hb := F.2.1
  have hml := F.2.2.2.1
  have hown := F.2.2.2.2.1
  have hts := F.2.2.2.2.2.1
  have hG : ∀ x ∈ gT, x.before args s = true := fun x h => hts x (List.mem_cons_of_mem _ h)
  unfold fMX12_show_0_101 at hf
  refine lv_iinc (v := (x1 + (1 : Int32))) (lv' := [(1, .int (x1 + (1 : Int32))), (0, .ref (ka K 0))]) hx hb dX12_show_101 hl (k := 1) rfl rfl (by decide) rfl (fun ls hl => ?_)
  refine lv_goto (tgt := 63) hx hb dX12_show_104 (by decide) ?_
  exact hk63 _ _ hf _ _ _ (lv_sub hl [1, 0] rfl) hW
set_option maxHeartbeats 4000000 in
set_option maxRecDepth 100000 in
theorem wMX12_show_0_96 {p : Program} {l : Launch} {e : Env} {s : State} {m : MethodId} {args : Array Value} {below : List Frame} {meth : Method} {c : Code} {A : Nat → Prop} {K : KX} (F : fx_ p s m args meth c cX12_show 2 none RX12 wsX12_show) {k63 : (Int32 × XS) → Option XS} (hk63 : ∀ t o, k63 t = some o → PMX12_show_0_63 p l e s m args below meth c A K t o) (x1 : Int32) (σ : XS) (o : XS) (hf : fMX12_show_0_96 (kn K) k63 x1 σ = some o) (H : Heap) (locs : List Loc) (ls : Array Slot) (hl : lv_has ls 2 [(0, .ref (ka K 0)), (1, .int x1)]) (hW : gw_ (kD K) vwCl (tyM K) (wM K) A s σ H locs) : W p l e rMX12_show_0 s m args below meth c H locs 0 0 (MQ below (gw_Qv (kD K) vwCl (tyM K) (wM K) A o) args s rMX12_show_0.cells rMX12_show_0.slots A) (F0 m 96 ls []) := by
  have hx := F.1
  have hb := F.2.1
  have hml := F.2.2.2.1
  have hown := F.2.2.2.2.1
  have hts := F.2.2.2.2.2.1
  have hG : ∀ x ∈ gT, x.before args s = true := fun x h => hts x (List.mem_cons_of_mem _ h)
  unfold fMX12_show_0_96 at hf
  refine lv_aload_n hx hb dX12_show_96 rfl (lv_at hl 0 rfl) ?_
  refine lv_iload_n hx hb dX12_show_97 rfl (lv_at hl 1 rfl) ?_
  obtain ⟨o7, h8, hf⟩ := gw_bind hf
  refine gw_Vv (As := [.int x1]) (mc' := 0) (ms' := 0) F hW (mMX12_showInode_0 h8) (cwV 1 hts (gT_V q_7_58 q_7_60 qp_49 q_1_12 q_7_61) rfl rfl rfl hdX12_showInode ⟨Nat.le_of_ble_eq_true rfl, Nat.le_of_ble_eq_true rfl⟩) 0 10 (aM_0 K σ) rfl rfl hl.1 rfl (Nat.le_of_ble_eq_true rfl) dX12_show_98 ⟨Nat.le_of_ble_eq_true rfl, Nat.le_of_ble_eq_true rfl⟩ rfl rfl (fun H locs hW => ?_)
  exact wMX12_show_0_101 F hk63 x1 _ _ hf _ _ _ (lv_sub hl [0, 1] rfl) hW
set_option maxHeartbeats 4000000 in
set_option maxRecDepth 100000 in
theorem wMX12_show_0_63 {p : Program} {l : Launch} {e : Env} {s : State} {m : MethodId} {args : Array Value} {below : List Frame} {meth : Method} {c : Code} {A : Nat → Prop} {K : KX} (F : fx_ p s m args meth c cX12_show 2 none RX12 wsX12_show) {k63 : (Int32 × XS) → Option XS} (hk63 : ∀ t o, k63 t = some o → PMX12_show_0_63 p l e s m args below meth c A K t o) (x1 : Int32) (σ : XS) (o : XS) (hf : fMX12_show_0_63 (kn K) k63 x1 σ = some o) (H : Heap) (locs : List Loc) (ls : Array Slot) (hl : lv_has ls 2 [(0, .ref (ka K 0)), (1, .int x1)]) (hW : gw_ (kD K) vwCl (tyM K) (wM K) A s σ H locs) : W p l e rMX12_show_0 s m args below meth c H locs 0 0 (MQ below (gw_Qv (kD K) vwCl (tyM K) (wM K) A o) args s rMX12_show_0.cells rMX12_show_0.slots A) (F0 m 63 ls []) := by
  have hx := F.1
  have hb := F.2.1
  have hml := F.2.2.2.1
  have hown := F.2.2.2.2.1
  have hts := F.2.2.2.2.2.1
  have hG : ∀ x ∈ gT, x.before args s = true := fun x h => hts x (List.mem_cons_of_mem _ h)
  unfold fMX12_show_0_63 at hf
  refine lv_iload_n hx hb dX12_show_63 rfl (lv_at hl 1 rfl) ?_
  refine lv_aload_n hx hb dX12_show_64 rfl (lv_at hl 0 rfl) ?_
  refine gw_get (v := .int (σ.1 7)) F inc_X12 hW 0 10 12 (aM_0 K σ) rfl (by decide) (hG _ q_6_124) (fun _ h9 => h9) rfl dX12_show_65 ?_
  refine lv_aload_n hx hb dX12_show_68 rfl (lv_at hl 0 rfl) ?_
  refine gw_get (v := .int (σ.1 5)) F inc_X12 hW 0 10 10 (aM_0 K σ) rfl (by decide) (hG _ q_6_122) (fun _ h9 => h9) rfl dX12_show_69 ?_
  refine lv_imul hx hb dX12_show_72 ?_
  refine lv_icmp_gt (tgt := 107) hx hb dX12_show_73 (by decide) (fun c4 => ?_) (fun c4 => ?_)
  · replace hf := (if_pos c4).symm.trans hf
    exact gw_retv F hW hf dX12_show_107
  · replace hf := (if_neg c4).symm.trans hf
    refine lv_aload_n hx hb dX12_show_76 rfl (lv_at hl 0 rfl) ?_
    refine gw_get (v := .ref (ka K 7)) F inc_X12 hW 0 10 16 (aM_0 K σ) rfl (by decide) (hG _ q_6_128) (fun _ h9 => h9) rfl dX12_show_77 ?_
    refine lv_iload_n hx hb dX12_show_80 rfl (lv_at hl 1 rfl) ?_
    rcases Decidable.em (x1 < 0 ∨ 2100 ≤ x1.toNatClampNeg) with c5 | c5
    · replace hf := (if_pos c5).symm.trans hf
      exact absurd hf (by simp)
    · replace hf := (if_neg c5).symm.trans hf
      refine gw_iald F hW 7 6 (aM_7 K σ) rfl c5 dX12_show_81 ?_
      refine lv_iconst (v := (1 : Int32)) hx hb dX12_show_82 (by decide) ?_
      refine lv_icmp_eq (tgt := 96) hx hb dX12_show_83 (by decide) (fun c6 => ?_) (fun c6 => ?_)
      · replace hf := (if_pos c6).symm.trans hf
        exact wMX12_show_0_96 F hk63 x1 _ _ hf _ _ _ (lv_sub hl [0, 1] rfl) hW
      · replace hf := (if_neg c6).symm.trans hf
        refine lv_aload_n hx hb dX12_show_86 rfl (lv_at hl 0 rfl) ?_
        refine gw_get (v := .ref (ka K 7)) F inc_X12 hW 0 10 16 (aM_0 K σ) rfl (by decide) (hG _ q_6_128) (fun _ h9 => h9) rfl dX12_show_87 ?_
        refine lv_iload_n hx hb dX12_show_90 rfl (lv_at hl 1 rfl) ?_
        rcases Decidable.em (x1 < 0 ∨ 2100 ≤ x1.toNatClampNeg) with c10 | c10
        · replace hf := (if_pos c10).symm.trans hf
          exact absurd hf (by simp)
        · replace hf := (if_neg c10).symm.trans hf
          refine gw_iald F hW 7 6 (aM_7 K σ) rfl c10 dX12_show_91 ?_
          refine lv_iconst (v := (2 : Int32)) hx hb dX12_show_92 (by decide) ?_
          refine lv_icmp_ne (tgt := 101) hx hb dX12_show_93 (by decide) (fun c11 => ?_) (fun c11 => ?_)
          · replace hf := (if_neg c11).symm.trans hf
            exact wMX12_show_0_101 F hk63 x1 _ _ hf _ _ _ (lv_sub hl [0, 1] rfl) hW
          · replace hf := (if_pos c11).symm.trans hf
            exact wMX12_show_0_96 F hk63 x1 _ _ hf _ _ _ (lv_sub hl [0, 1] rfl) hW
set_option maxHeartbeats 4000000 in
set_option maxRecDepth 100000 in
theorem wMX12_show_0_42 {p : Program} {l : Launch} {e : Env} {s : State} {m : MethodId} {args : Array Value} {below : List Frame} {meth : Method} {c : Code} {A : Nat → Prop} {K : KX} (F : fx_ p s m args meth c cX12_show 2 none RX12 wsX12_show) {k42 : (Int32 × XS) → Option XS} (hk42 : ∀ t o, k42 t = some o → PMX12_show_0_42 p l e s m args below meth c A K t o) (x1 : Int32) (σ : XS) (o : XS) (hf : fMX12_show_0_42 (kn K) k42 x1 σ = some o) (H : Heap) (locs : List Loc) (ls : Array Slot) (hl : lv_has ls 2 [(0, .ref (ka K 0)), (1, .int x1)]) (hW : gw_ (kD K) vwCl (tyM K) (wM K) A s σ H locs) : W p l e rMX12_show_0 s m args below meth c H locs 0 0 (MQ below (gw_Qv (kD K) vwCl (tyM K) (wM K) A o) args s rMX12_show_0.cells rMX12_show_0.slots A) (F0 m 42 ls []) := by
  have hx := F.1
  have hb := F.2.1
  have hml := F.2.2.2.1
  have hown := F.2.2.2.2.1
  have hts := F.2.2.2.2.2.1
  have hG : ∀ x ∈ gT, x.before args s = true := fun x h => hts x (List.mem_cons_of_mem _ h)
  unfold fMX12_show_0_42 at hf
  refine lv_iload_n hx hb dX12_show_42 rfl (lv_at hl 1 rfl) ?_
  refine lv_aload_n hx hb dX12_show_43 rfl (lv_at hl 0 rfl) ?_
  refine gw_get (v := .int (σ.1 7)) F inc_X12 hW 0 10 12 (aM_0 K σ) rfl (by decide) (hG _ q_6_124) (fun _ h9 => h9) rfl dX12_show_44 ?_
  refine lv_icmp_ge (tgt := 61) hx hb dX12_show_47 (by decide) (fun c3 => ?_) (fun c3 => ?_)
  · replace hf := (if_pos c3).symm.trans hf
    refine lv_iconst (v := (1 : Int32)) hx hb dX12_show_61 (by decide) ?_
    refine lv_istore_n (lv' := [(1, .int (1 : Int32)), (0, .ref (ka K 0))]) hx hb dX12_show_62 rfl hl (by decide) rfl (fun ls hl => ?_)
    exact lfix_ind (P := PMX12_show_0_63 p l e s m args below meth c A K) (fun k63 hk63 t o hf => wMX12_show_0_63 F hk63 t.1 t.2 o hf) FU _ _ hf _ _ _ (lv_sub hl [1, 0] rfl) hW
  · replace hf := (if_neg c3).symm.trans hf
    refine lv_aload_n hx hb dX12_show_50 rfl (lv_at hl 0 rfl) ?_
    refine lv_iload_n hx hb dX12_show_51 rfl (lv_at hl 1 rfl) ?_
    obtain ⟨o12, h13, hf⟩ := gw_bind hf
    refine gw_Vv (As := [.int x1]) (mc' := 0) (ms' := 0) F hW (mMX12_showGroup_0 h13) (cwV 1 hts (gT_V q_7_33 q_7_35 qp_44 q_1_12 q_7_36) rfl rfl rfl hdX12_showGroup ⟨Nat.le_of_ble_eq_true rfl, Nat.le_of_ble_eq_true rfl⟩) 0 10 (aM_0 K σ) rfl rfl hl.1 rfl (Nat.le_of_ble_eq_true rfl) dX12_show_52 ⟨Nat.le_of_ble_eq_true rfl, Nat.le_of_ble_eq_true rfl⟩ rfl rfl (fun H locs hW => ?_)
    refine lv_iinc (v := (x1 + (1 : Int32))) (lv' := [(1, .int (x1 + (1 : Int32))), (0, .ref (ka K 0))]) hx hb dX12_show_55 hl (k := 1) rfl rfl (by decide) rfl (fun ls hl => ?_)
    refine lv_goto (tgt := 42) hx hb dX12_show_58 (by decide) ?_
    exact hk42 _ _ hf _ _ _ (lv_sub hl [1, 0] rfl) hW
set_option maxHeartbeats 4000000 in
set_option maxRecDepth 100000 in
theorem wMX12_show_0_15 {p : Program} {l : Launch} {e : Env} {s : State} {m : MethodId} {args : Array Value} {below : List Frame} {meth : Method} {c : Code} {A : Nat → Prop} {K : KX} (F : fx_ p s m args meth c cX12_show 2 none RX12 wsX12_show) {k15 : (Int32 × XS) → Option XS} (hk15 : ∀ t o, k15 t = some o → PMX12_show_0_15 p l e s m args below meth c A K t o) (x1 : Int32) (σ : XS) (o : XS) (hf : fMX12_show_0_15 (kn K) k15 x1 σ = some o) (H : Heap) (locs : List Loc) (ls : Array Slot) (hl : lv_has ls 2 [(0, .ref (ka K 0)), (1, .int x1)]) (hW : gw_ (kD K) vwCl (tyM K) (wM K) A s σ H locs) : W p l e rMX12_show_0 s m args below meth c H locs 0 0 (MQ below (gw_Qv (kD K) vwCl (tyM K) (wM K) A o) args s rMX12_show_0.cells rMX12_show_0.slots A) (F0 m 15 ls []) := by
  have hx := F.1
  have hb := F.2.1
  have hml := F.2.2.2.1
  have hown := F.2.2.2.2.1
  have hts := F.2.2.2.2.2.1
  have hG : ∀ x ∈ gT, x.before args s = true := fun x h => hts x (List.mem_cons_of_mem _ h)
  unfold fMX12_show_0_15 at hf
  refine lv_iload_n hx hb dX12_show_15 rfl (lv_at hl 1 rfl) ?_
  refine lv_sipush (v := (1024 : Int32)) hx hb dX12_show_16 (by decide) ?_
  refine lv_aload_n hx hb dX12_show_19 rfl (lv_at hl 0 rfl) ?_
  refine gw_get (v := .int (Int32.ofNat (kn K))) F inc_X12 hW 0 10 1 (aM_0 K σ) rfl (by decide) (hG _ q_6_113) (fun _ h9 => h9) rfl dX12_show_20 ?_
  refine lv_imul hx hb dX12_show_23 ?_
  refine lv_icmp_ge (tgt := 40) hx hb dX12_show_24 (by decide) (fun c2 => ?_) (fun c2 => ?_)
  · replace hf := (if_pos c2).symm.trans hf
    refine lv_iconst (v := (0 : Int32)) hx hb dX12_show_40 (by decide) ?_
    refine lv_istore_n (lv' := [(1, .int (0 : Int32)), (0, .ref (ka K 0))]) hx hb dX12_show_41 rfl hl (by decide) rfl (fun ls hl => ?_)
    exact lfix_ind (P := PMX12_show_0_42 p l e s m args below meth c A K) (fun k42 hk42 t o hf => wMX12_show_0_42 F hk42 t.1 t.2 o hf) FU _ _ hf _ _ _ (lv_sub hl [1, 0] rfl) hW
  · replace hf := (if_neg c2).symm.trans hf
    refine lv_aload_n hx hb dX12_show_27 rfl (lv_at hl 0 rfl) ?_
    refine gw_get (v := .ref (ka K 2)) F inc_X12 hW 0 10 3 (aM_0 K σ) rfl (by decide) (hG _ q_6_115) (fun _ h9 => h9) rfl dX12_show_28 ?_
    refine lv_iload_n hx hb dX12_show_31 rfl (lv_at hl 1 rfl) ?_
    refine lv_iconst (v := (0 : Int32)) hx hb dX12_show_32 (by decide) ?_
    rcases Decidable.em (x1 < 0 ∨ 524288 ≤ x1.toNatClampNeg) with c15 | c15
    · replace hf := (if_pos c15).symm.trans hf
      exact absurd hf (by simp)
    · replace hf := (if_neg c15).symm.trans hf
      refine gw_bast (σ' := (stA σ 1 x1.toNatClampNeg (vp_nar .byte (0 : Int32)))) F hW 2 1 (aM_2 K σ) rfl c15 dX12_show_33 (sAM_1 _ _ _) (fun H locs hW => ?_)
      refine lv_iinc (v := (x1 + (1 : Int32))) (lv' := [(1, .int (x1 + (1 : Int32))), (0, .ref (ka K 0))]) hx hb dX12_show_34 hl (k := 1) rfl rfl (by decide) rfl (fun ls hl => ?_)
      refine lv_goto (tgt := 15) hx hb dX12_show_37 (by decide) ?_
      exact hk15 _ _ hf _ _ _ (lv_sub hl [1, 0] rfl) hW
set_option maxHeartbeats 4000000 in
set_option maxRecDepth 100000 in
theorem wMX12_show_0_0 {p : Program} {l : Launch} {e : Env} {s : State} {m : MethodId} {args : Array Value} {below : List Frame} {meth : Method} {c : Code} {A : Nat → Prop} {K : KX} (F : fx_ p s m args meth c cX12_show 2 none RX12 wsX12_show) (σ : XS) (o : XS) (hf : fMX12_show_0_0 (kn K) σ = some o) (H : Heap) (locs : List Loc) (ls : Array Slot) (hl : lv_has ls 2 [(0, .ref (ka K 0))]) (hW : gw_ (kD K) vwCl (tyM K) (wM K) A s σ H locs) : W p l e rMX12_show_0 s m args below meth c H locs 0 0 (MQ below (gw_Qv (kD K) vwCl (tyM K) (wM K) A o) args s rMX12_show_0.cells rMX12_show_0.slots A) (F0 m 0 ls []) := by
  have hx := F.1
  have hb := F.2.1
  have hml := F.2.2.2.1
  have hown := F.2.2.2.2.1
  have hts := F.2.2.2.2.2.1
  have hG : ∀ x ∈ gT, x.before args s = true := fun x h => hts x (List.mem_cons_of_mem _ h)
  unfold fMX12_show_0_0 at hf
  refine lv_aload_n hx hb dX12_show_0 rfl (lv_at hl 0 rfl) ?_
  refine gw_get (v := .int (σ.1 3)) F inc_X12 hW 0 10 8 (aM_0 K σ) rfl (by decide) (hG _ q_6_120) (fun _ h9 => h9) rfl dX12_show_1 ?_
  refine lv_if_eq (tgt := 8) hx hb dX12_show_4 (by decide) (fun c1 => ?_) (fun c1 => ?_)
  · replace hf := (if_pos c1).symm.trans hf
    refine lv_aload_n hx hb dX12_show_8 rfl (lv_at hl 0 rfl) ?_
    refine lv_iconst (v := (1 : Int32)) hx hb dX12_show_9 (by decide) ?_
    refine gw_put (σ' := (stS σ 3 (1 : Int32))) (ty := .boolean) F inc_X12 tyX12 tyX12_ok nmX12 hW 0 10 8 (aM_0 K σ) rfl (by decide) (hG _ q_6_120) (fun _ h9 => h9) rfl (by decide +kernel) rfl rfl (Nat.le_of_ble_eq_true rfl) dX12_show_10 (sSM_3 _ _ _) (fun H locs hW => ?_)
    refine lv_iconst (v := (0 : Int32)) hx hb dX12_show_13 (by decide) ?_
    refine lv_istore_n (lv' := [(1, .int (0 : Int32)), (0, .ref (ka K 0))]) hx hb dX12_show_14 rfl hl (by decide) rfl (fun ls hl => ?_)
    exact lfix_ind (P := PMX12_show_0_15 p l e s m args below meth c A K) (fun k15 hk15 t o hf => wMX12_show_0_15 F hk15 t.1 t.2 o hf) FU _ _ hf _ _ _ (lv_sub hl [1, 0] rfl) hW
  · replace hf := (if_neg c1).symm.trans hf
    exact gw_retv F hW hf dX12_show_7
set_option maxHeartbeats 4000000 in
set_option maxRecDepth 100000 in
theorem mMX12_show_0 {l : Launch} {K : KX} {σ : XS} {o : XS} (hf : fMX12_show_0 (kn K) σ = some o) : gw_Mv l (kD K) vwCl (tyM K) (wM K) yX12_show wsX12_show rMX12_show_0 [.ref (ka K 0)] σ o := by
  intro sz
  refine gw_body (cc := cX12_show) (maxL := 2) (yret := none) (by decide +kernel) rfl ?_ (Nat.le_of_ble_eq_true rfl)
  intro p e s m below meth c F hsz hW ls hl
  exact wMX12_show_0_0 F σ o hf s.heap [] ls hl hW
abbrev rMX12_byteAt_0 : Room := { frames := 4, cells := 0, slots := 0, locals := 91 }
set_option maxHeartbeats 4000000 in
set_option maxRecDepth 100000 in
theorem wMX12_byteAt_0_54 {p : Program} {l : Launch} {e : Env} {s : State} {m : MethodId} {args : Array Value} {below : List Frame} {meth : Method} {c : Code} {A : Nat → Prop} {K : KX} (F : fx_ p s m args meth c cX12_byteAt 2 (some .int) RX12 wsX12_byteAt) (x1 : Int32) (σ : XS) (o : (Int32 × XS)) (hf : fMX12_byteAt_0_54 (kn K) x1 σ = some o) (H : Heap) (locs : List Loc) (ls : Array Slot) (hl : lv_has ls 2 [(0, .ref (ka K 0)), (1, .int x1)]) (hW : gw_ (kD K) vwCl (tyM K) (wM K) A s σ H locs) : W p l e rMX12_byteAt_0 s m args below meth c H locs 0 0 (MQ below (gw_Qi (kD K) vwCl (tyM K) (wM K) A o) args s rMX12_byteAt_0.cells rMX12_byteAt_0.slots A) (F0 m 54 ls []) := by
  have hx := F.1
  have hb := F.2.1
  have hml := F.2.2.2.1
  have hown := F.2.2.2.2.1
  have hts := F.2.2.2.2.2.1
  have hG : ∀ x ∈ gT, x.before args s = true := fun x h => hts x (List.mem_cons_of_mem _ h)
  unfold fMX12_byteAt_0_54 at hf
  refine lv_aload_n hx hb dX12_byteAt_54 rfl (lv_at hl 0 rfl) ?_
  obtain ⟨o5, h6, hf⟩ := gw_bind hf
  refine gw_Vv (As := []) (mc' := 0) (ms' := 0) F hW (mMX12_show_0 h6) (cwV 0 hts (gT_V q_7_29 q_7_31 qp_43 q_1_12 q_7_32) rfl rfl rfl hdX12_show ⟨Nat.le_of_ble_eq_true rfl, Nat.le_of_ble_eq_true rfl⟩) 0 10 (aM_0 K σ) rfl rfl hl.1 rfl (Nat.le_of_ble_eq_true rfl) dX12_byteAt_55 ⟨Nat.le_of_ble_eq_true rfl, Nat.le_of_ble_eq_true rfl⟩ rfl rfl (fun H locs hW => ?_)
  refine lv_aload_n hx hb dX12_byteAt_58 rfl (lv_at hl 0 rfl) ?_
  refine gw_get (v := .ref (ka K 2)) F inc_X12 hW 0 10 3 (aM_0 K o5) rfl (by decide) (hG _ q_6_115) (fun _ h9 => h9) rfl dX12_byteAt_59 ?_
  refine lv_iload_n hx hb dX12_byteAt_62 rfl (lv_at hl 1 rfl) ?_
  rcases Decidable.em (x1 < 0 ∨ 524288 ≤ x1.toNatClampNeg) with c8 | c8
  · replace hf := (if_pos c8).symm.trans hf
    exact absurd hf (by simp)
  · replace hf := (if_neg c8).symm.trans hf
    refine gw_bald F hW 2 1 (aM_2 K o5) rfl c8 dX12_byteAt_63 ?_
    refine lv_sipush (v := (255 : Int32)) hx hb dX12_byteAt_64 (by decide) ?_
    refine lv_iand hx hb dX12_byteAt_67 ?_
    exact gw_reti F hW hf dX12_byteAt_68
set_option maxHeartbeats 4000000 in
set_option maxRecDepth 100000 in
theorem wMX12_byteAt_0_0 {p : Program} {l : Launch} {e : Env} {s : State} {m : MethodId} {args : Array Value} {below : List Frame} {meth : Method} {c : Code} {A : Nat → Prop} {K : KX} (F : fx_ p s m args meth c cX12_byteAt 2 (some .int) RX12 wsX12_byteAt) (x1 : Int32) (σ : XS) (o : (Int32 × XS)) (hf : fMX12_byteAt_0_0 (kn K) x1 σ = some o) (H : Heap) (locs : List Loc) (ls : Array Slot) (hl : lv_has ls 2 [(0, .ref (ka K 0)), (1, .int x1)]) (hW : gw_ (kD K) vwCl (tyM K) (wM K) A s σ H locs) : W p l e rMX12_byteAt_0 s m args below meth c H locs 0 0 (MQ below (gw_Qi (kD K) vwCl (tyM K) (wM K) A o) args s rMX12_byteAt_0.cells rMX12_byteAt_0.slots A) (F0 m 0 ls []) := by
  have hx := F.1
  have hb := F.2.1
  have hml := F.2.2.2.1
  have hown := F.2.2.2.2.1
  have hts := F.2.2.2.2.2.1
  have hG : ∀ x ∈ gT, x.before args s = true := fun x h => hts x (List.mem_cons_of_mem _ h)
  unfold fMX12_byteAt_0_0 at hf
  refine lv_aload_n hx hb dX12_byteAt_0 rfl (lv_at hl 0 rfl) ?_
  refine lv_iconst (v := (0 : Int32)) hx hb dX12_byteAt_1 (by decide) ?_
  refine gw_put (σ' := (stS σ 0 (0 : Int32))) (ty := .int) F inc_X12 tyX12 tyX12_ok nmX12 hW 0 10 0 (aM_0 K σ) rfl (by decide) (hG _ q_6_112) (fun _ h9 => h9) rfl (by decide +kernel) rfl rfl (Nat.le_of_ble_eq_true rfl) dX12_byteAt_2 (sSM_0 _ _ _) (fun H locs hW => ?_)
  refine lv_iload_n hx hb dX12_byteAt_5 rfl (lv_at hl 1 rfl) ?_
  refine lv_if_lt (tgt := 21) hx hb dX12_byteAt_6 (by decide) (fun c1 => ?_) (fun c1 => ?_)
  · replace hf := (if_pos c1).symm.trans hf
    refine lv_iconst (v := (-1 : Int32)) hx hb dX12_byteAt_21 (by decide) ?_
    exact gw_reti F hW hf dX12_byteAt_22
  · replace hf := (if_neg c1).symm.trans hf
    refine lv_iload_n hx hb dX12_byteAt_9 rfl (lv_at hl 1 rfl) ?_
    refine lv_sipush (v := (1024 : Int32)) hx hb dX12_byteAt_10 (by decide) ?_
    refine lv_aload_n hx hb dX12_byteAt_13 rfl (lv_at hl 0 rfl) ?_
    refine gw_get (v := .int (Int32.ofNat (kn K))) F inc_X12 hW 0 10 1 (aM_0 K (stS σ 0 (0 : Int32))) rfl (by decide) (hG _ q_6_113) (fun _ h9 => h9) rfl dX12_byteAt_14 ?_
    refine lv_imul hx hb dX12_byteAt_17 ?_
    refine lv_icmp_lt (tgt := 23) hx hb dX12_byteAt_18 (by decide) (fun c2 => ?_) (fun c2 => ?_)
    · replace hf := (if_pos c2).symm.trans hf
      refine lv_aload_n hx hb dX12_byteAt_23 rfl (lv_at hl 0 rfl) ?_
      refine gw_get (v := .int (σ.1 2)) F inc_X12 hW 0 10 7 (aM_0 K (stS σ 0 (0 : Int32))) rfl (by decide) (hG _ q_6_119) (fun _ h9 => h9) rfl dX12_byteAt_24 ?_
      refine lv_if_ne (tgt := 32) hx hb dX12_byteAt_27 (by decide) (fun c3 => ?_) (fun c3 => ?_)
      · replace hf := (if_neg c3).symm.trans hf
        refine lv_iload_n hx hb dX12_byteAt_32 rfl (lv_at hl 1 rfl) ?_
        refine lv_sipush (v := (1024 : Int32)) hx hb dX12_byteAt_33 (by decide) ?_
        refine lv_icmp_lt (tgt := 54) hx hb dX12_byteAt_36 (by decide) (fun c4 => ?_) (fun c4 => ?_)
        · replace hf := (if_pos c4).symm.trans hf
          exact wMX12_byteAt_0_54 F x1 _ _ hf _ _ _ (lv_sub hl [0, 1] rfl) hW
        · replace hf := (if_neg c4).symm.trans hf
          refine lv_aload_n hx hb dX12_byteAt_39 rfl (lv_at hl 0 rfl) ?_
          refine gw_get (v := .ref (ka K 5)) F inc_X12 hW 0 10 14 (aM_0 K (stS σ 0 (0 : Int32))) rfl (by decide) (hG _ q_6_126) (fun _ h9 => h9) rfl dX12_byteAt_40 ?_
          refine lv_iload_n hx hb dX12_byteAt_43 rfl (lv_at hl 1 rfl) ?_
          refine lv_sipush (v := (1024 : Int32)) hx hb dX12_byteAt_44 (by decide) ?_
          refine lv_idiv hx hb dX12_byteAt_47 (by decide) ?_
          rcases Decidable.em ((x1 / (1024 : Int32)) < 0 ∨ 512 ≤ (x1 / (1024 : Int32)).toNatClampNeg) with c9 | c9
          · replace hf := (if_pos c9).symm.trans hf
            exact absurd hf (by simp)
          · replace hf := (if_neg c9).symm.trans hf
            refine gw_zald F hW 5 4 (aM_5 K (stS σ 0 (0 : Int32))) rfl c9 dX12_byteAt_48 ?_
            refine lv_if_ne (tgt := 54) hx hb dX12_byteAt_49 (by decide) (fun c10 => ?_) (fun c10 => ?_)
            · replace hf := (if_neg c10).symm.trans hf
              exact wMX12_byteAt_0_54 F x1 _ _ hf _ _ _ (lv_sub hl [0, 1] rfl) hW
            · replace hf := (if_pos c10).symm.trans hf
              refine lv_iconst (v := (-1 : Int32)) hx hb dX12_byteAt_52 (by decide) ?_
              exact gw_reti F hW hf dX12_byteAt_53
      · replace hf := (if_pos c3).symm.trans hf
        refine lv_iconst (v := (0 : Int32)) hx hb dX12_byteAt_30 (by decide) ?_
        exact gw_reti F hW hf dX12_byteAt_31
    · replace hf := (if_neg c2).symm.trans hf
      refine lv_iconst (v := (-1 : Int32)) hx hb dX12_byteAt_21 (by decide) ?_
      exact gw_reti F hW hf dX12_byteAt_22
set_option maxHeartbeats 4000000 in
set_option maxRecDepth 100000 in
theorem mMX12_byteAt_0 {l : Launch} {K : KX} {σ : XS} {x1 : Int32} {o : (Int32 × XS)} (hf : fMX12_byteAt_0 (kn K) x1 σ = some o) : gw_Mi l (kD K) vwCl (tyM K) (wM K) yX12_byteAt wsX12_byteAt rMX12_byteAt_0 [.ref (ka K 0), .int x1] σ o := by
  intro sz
  refine gw_body (cc := cX12_byteAt) (maxL := 2) (yret := some .int) (by decide +kernel) rfl ?_ (Nat.le_of_ble_eq_true rfl)
  intro p e s m below meth c F hsz hW ls hl
  exact wMX12_byteAt_0_0 F x1 σ o hf s.heap [] ls hl hW
abbrev rMX12_fault_0 : Room := { frames := 0, cells := 0, slots := 0, locals := 0 }
set_option maxHeartbeats 4000000 in
set_option maxRecDepth 100000 in
theorem wMX12_fault_0_0 {p : Program} {l : Launch} {e : Env} {s : State} {m : MethodId} {args : Array Value} {below : List Frame} {meth : Method} {c : Code} {A : Nat → Prop} {K : KX} (F : fx_ p s m args meth c cX12_fault 1 (some .int) RX12 wsX12_fault) (σ : XS) (o : (Int32 × XS)) (hf : fMX12_fault_0_0 (kn K) σ = some o) (H : Heap) (locs : List Loc) (ls : Array Slot) (hl : lv_has ls 1 [(0, .ref (ka K 0))]) (hW : gw_ (kD K) vwCl (tyM K) (wM K) A s σ H locs) : W p l e rMX12_fault_0 s m args below meth c H locs 0 0 (MQ below (gw_Qi (kD K) vwCl (tyM K) (wM K) A o) args s rMX12_fault_0.cells rMX12_fault_0.slots A) (F0 m 0 ls []) := by
  have hx := F.1
  have hb := F.2.1
  have hml := F.2.2.2.1
  have hown := F.2.2.2.2.1
  have hts := F.2.2.2.2.2.1
  have hG : ∀ x ∈ gT, x.before args s = true := fun x h => hts x (List.mem_cons_of_mem _ h)
  unfold fMX12_fault_0_0 at hf
  refine lv_aload_n hx hb dX12_fault_0 rfl (lv_at hl 0 rfl) ?_
  refine lv_iconst (v := (0 : Int32)) hx hb dX12_fault_1 (by decide) ?_
  refine gw_put (σ' := (stS σ 0 (0 : Int32))) (ty := .int) F inc_X12 tyX12 tyX12_ok nmX12 hW 0 10 0 (aM_0 K σ) rfl (by decide) (hG _ q_6_112) (fun _ h9 => h9) rfl (by decide +kernel) rfl rfl (Nat.le_of_ble_eq_true rfl) dX12_fault_2 (sSM_0 _ _ _) (fun H locs hW => ?_)
  refine lv_aload_n hx hb dX12_fault_5 rfl (lv_at hl 0 rfl) ?_
  refine gw_get (v := .int (σ.1 2)) F inc_X12 hW 0 10 7 (aM_0 K (stS σ 0 (0 : Int32))) rfl (by decide) (hG _ q_6_119) (fun _ h9 => h9) rfl dX12_fault_6 ?_
  refine lv_if_eq (tgt := 16) hx hb dX12_fault_9 (by decide) (fun c1 => ?_) (fun c1 => ?_)
  · replace hf := (if_pos c1).symm.trans hf
    refine lv_iconst (v := (-1 : Int32)) hx hb dX12_fault_16 (by decide) ?_
    exact gw_reti F hW hf dX12_fault_17
  · replace hf := (if_neg c1).symm.trans hf
    refine lv_iconst (v := (0 : Int32)) hx hb dX12_fault_12 (by decide) ?_
    refine lv_goto (tgt := 17) hx hb dX12_fault_13 (by decide) ?_
    exact gw_reti F hW hf dX12_fault_17
set_option maxHeartbeats 4000000 in
set_option maxRecDepth 100000 in
theorem mMX12_fault_0 {l : Launch} {K : KX} {σ : XS} {o : (Int32 × XS)} (hf : fMX12_fault_0 (kn K) σ = some o) : gw_Mi l (kD K) vwCl (tyM K) (wM K) yX12_fault wsX12_fault rMX12_fault_0 [.ref (ka K 0)] σ o := by
  intro sz
  refine gw_body (cc := cX12_fault) (maxL := 1) (yret := some .int) (by decide +kernel) rfl ?_ (Nat.le_of_ble_eq_true rfl)
  intro p e s m below meth c F hsz hW ls hl
  exact wMX12_fault_0_0 F σ o hf s.heap [] ls hl hW
abbrev rMX12_many_0 : Room := { frames := 1, cells := 0, slots := 0, locals := 22 }
set_option maxHeartbeats 4000000 in
set_option maxRecDepth 100000 in
theorem wMX12_many_0_0 {p : Program} {l : Launch} {e : Env} {s : State} {m : MethodId} {args : Array Value} {below : List Frame} {meth : Method} {c : Code} {A : Nat → Prop} {K : KX} (F : fx_ p s m args meth c cX12_many 2 (some .int) RX12 wsX12_many) (x1 : Int32) (σ : XS) (o : (Int32 × XS)) (hf : fMX12_many_0_0 (kn K) x1 σ = some o) (H : Heap) (locs : List Loc) (ls : Array Slot) (hl : lv_has ls 2 [(0, .ref (ka K 0)), (1, .int x1)]) (hW : gw_ (kD K) vwCl (tyM K) (wM K) A s σ H locs) : W p l e rMX12_many_0 s m args below meth c H locs 0 0 (MQ below (gw_Qi (kD K) vwCl (tyM K) (wM K) A o) args s rMX12_many_0.cells rMX12_many_0.slots A) (F0 m 0 ls []) := by
  have hx := F.1
  have hb := F.2.1
  have hml := F.2.2.2.1
  have hown := F.2.2.2.2.1
  have hts := F.2.2.2.2.2.1
  have hG : ∀ x ∈ gT, x.before args s = true := fun x h => hts x (List.mem_cons_of_mem _ h)
  unfold fMX12_many_0_0 at hf
  refine lv_aload_n hx hb dX12_many_0 rfl (lv_at hl 0 rfl) ?_
  refine lv_iconst (v := (0 : Int32)) hx hb dX12_many_1 (by decide) ?_
  refine gw_put (σ' := (stS σ 0 (0 : Int32))) (ty := .int) F inc_X12 tyX12 tyX12_ok nmX12 hW 0 10 0 (aM_0 K σ) rfl (by decide) (hG _ q_6_112) (fun _ h9 => h9) rfl (by decide +kernel) rfl rfl (Nat.le_of_ble_eq_true rfl) dX12_many_2 (sSM_0 _ _ _) (fun H locs hW => ?_)
  refine lv_aload_n hx hb dX12_many_5 rfl (lv_at hl 0 rfl) ?_
  refine gw_get (v := .int (σ.1 2)) F inc_X12 hW 0 10 7 (aM_0 K (stS σ 0 (0 : Int32))) rfl (by decide) (hG _ q_6_119) (fun _ h9 => h9) rfl dX12_many_6 ?_
  refine lv_if_ne (tgt := 14) hx hb dX12_many_9 (by decide) (fun c1 => ?_) (fun c1 => ?_)
  · replace hf := (if_neg c1).symm.trans hf
    refine lv_iload_n hx hb dX12_many_14 rfl (lv_at hl 1 rfl) ?_
    refine lv_if_ne (tgt := 25) hx hb dX12_many_15 (by decide) (fun c2 => ?_) (fun c2 => ?_)
    · replace hf := (if_neg c2).symm.trans hf
      refine lv_iload_n hx hb dX12_many_25 rfl (lv_at hl 1 rfl) ?_
      refine lv_iconst (v := (1 : Int32)) hx hb dX12_many_26 (by decide) ?_
      refine lv_icmp_ne (tgt := 37) hx hb dX12_many_27 (by decide) (fun c3 => ?_) (fun c3 => ?_)
      · replace hf := (if_neg c3).symm.trans hf
        refine lv_iload_n hx hb dX12_many_37 rfl (lv_at hl 1 rfl) ?_
        refine lv_iconst (v := (2 : Int32)) hx hb dX12_many_38 (by decide) ?_
        refine lv_icmp_ne (tgt := 49) hx hb dX12_many_39 (by decide) (fun c4 => ?_) (fun c4 => ?_)
        · replace hf := (if_neg c4).symm.trans hf
          refine lv_iload_n hx hb dX12_many_49 rfl (lv_at hl 1 rfl) ?_
          refine lv_iconst (v := (3 : Int32)) hx hb dX12_many_50 (by decide) ?_
          refine lv_icmp_ne (tgt := 61) hx hb dX12_many_51 (by decide) (fun c5 => ?_) (fun c5 => ?_)
          · replace hf := (if_neg c5).symm.trans hf
            refine lv_iconst (v := (-1 : Int32)) hx hb dX12_many_61 (by decide) ?_
            exact gw_reti F hW hf dX12_many_62
          · replace hf := (if_pos c5).symm.trans hf
            refine lv_aload_n hx hb dX12_many_54 rfl (lv_at hl 0 rfl) ?_
            refine gw_get (v := .int (σ.1 5)) F inc_X12 hW 0 10 10 (aM_0 K (stS σ 0 (0 : Int32))) rfl (by decide) (hG _ q_6_122) (fun _ h9 => h9) rfl dX12_many_55 ?_
            refine lv_goto (tgt := 62) hx hb dX12_many_58 (by decide) ?_
            exact gw_reti F hW hf dX12_many_62
        · replace hf := (if_pos c4).symm.trans hf
          refine lv_aload_n hx hb dX12_many_42 rfl (lv_at hl 0 rfl) ?_
          refine gw_get (v := .int (σ.1 7)) F inc_X12 hW 0 10 12 (aM_0 K (stS σ 0 (0 : Int32))) rfl (by decide) (hG _ q_6_124) (fun _ h9 => h9) rfl dX12_many_43 ?_
          refine lv_goto (tgt := 62) hx hb dX12_many_46 (by decide) ?_
          exact gw_reti F hW hf dX12_many_62
      · replace hf := (if_pos c3).symm.trans hf
        refine lv_aload_n hx hb dX12_many_30 rfl (lv_at hl 0 rfl) ?_
        obtain ⟨o6, h7, hf⟩ := gw_bind hf
        refine gw_Vi (As := []) (mc' := 0) (ms' := 0) F hW (mMX12_freeInodes_0 h7) (cwV 0 hts (gT_V q_7_49 q_7_51 qp_48 q_1_12 q_7_52) rfl rfl rfl hdX12_freeInodes ⟨Nat.le_of_ble_eq_true rfl, Nat.le_of_ble_eq_true rfl⟩) 0 10 (aM_0 K (stS σ 0 (0 : Int32))) rfl rfl hl.1 rfl (Nat.le_of_ble_eq_true rfl) dX12_many_31 ⟨Nat.le_of_ble_eq_true rfl, Nat.le_of_ble_eq_true rfl⟩ rfl rfl (fun H locs hW => ?_)
        refine lv_goto (tgt := 62) hx hb dX12_many_34 (by decide) ?_
        exact gw_reti F hW hf dX12_many_62
    · replace hf := (if_pos c2).symm.trans hf
      refine lv_aload_n hx hb dX12_many_18 rfl (lv_at hl 0 rfl) ?_
      obtain ⟨o9, h10, hf⟩ := gw_bind hf
      refine gw_Vi (As := []) (mc' := 0) (ms' := 0) F hW (mMX12_freeBlocks_0 h10) (cwV 0 hts (gT_V q_7_21 q_7_23 qp_42 q_1_12 q_7_24) rfl rfl rfl hdX12_freeBlocks ⟨Nat.le_of_ble_eq_true rfl, Nat.le_of_ble_eq_true rfl⟩) 0 10 (aM_0 K (stS σ 0 (0 : Int32))) rfl rfl hl.1 rfl (Nat.le_of_ble_eq_true rfl) dX12_many_19 ⟨Nat.le_of_ble_eq_true rfl, Nat.le_of_ble_eq_true rfl⟩ rfl rfl (fun H locs hW => ?_)
      refine lv_goto (tgt := 62) hx hb dX12_many_22 (by decide) ?_
      exact gw_reti F hW hf dX12_many_62
  · replace hf := (if_pos c1).symm.trans hf
    refine lv_iconst (v := (-1 : Int32)) hx hb dX12_many_12 (by decide) ?_
    exact gw_reti F hW hf dX12_many_13
set_option maxHeartbeats 4000000 in
set_option maxRecDepth 100000 in
theorem mMX12_many_0 {l : Launch} {K : KX} {σ : XS} {x1 : Int32} {o : (Int32 × XS)} (hf : fMX12_many_0 (kn K) x1 σ = some o) : gw_Mi l (kD K) vwCl (tyM K) (wM K) yX12_many wsX12_many rMX12_many_0 [.ref (ka K 0), .int x1] σ o := by
  intro sz
  refine gw_body (cc := cX12_many) (maxL := 2) (yret := some .int) (by decide +kernel) rfl ?_ (Nat.le_of_ble_eq_true rfl)
  intro p e s m below meth c F hsz hW ls hl
  exact wMX12_many_0_0 F x1 σ o hf s.heap [] ls hl hW
abbrev rMX12_uses_0 : Room := { frames := 3, cells := 0, slots := 0, locals := 63 }
set_option maxHeartbeats 4000000 in
set_option maxRecDepth 100000 in
theorem wMX12_uses_0_0 {p : Program} {l : Launch} {e : Env} {s : State} {m : MethodId} {args : Array Value} {below : List Frame} {meth : Method} {c : Code} {A : Nat → Prop} {K : KX} (F : fx_ p s m args meth c cX12_uses 2 (some .int) RX12 wsX12_uses) (x1 : Int32) (σ : XS) (o : (Int32 × XS)) (hf : fMX12_uses_0_0 (kn K) x1 σ = some o) (H : Heap) (locs : List Loc) (ls : Array Slot) (hl : lv_has ls 2 [(0, .ref (ka K 0)), (1, .int x1)]) (hW : gw_ (kD K) vwCl (tyM K) (wM K) A s σ H locs) : W p l e rMX12_uses_0 s m args below meth c H locs 0 0 (MQ below (gw_Qi (kD K) vwCl (tyM K) (wM K) A o) args s rMX12_uses_0.cells rMX12_uses_0.slots A) (F0 m 0 ls []) := by
  have hx := F.1
  have hb := F.2.1
  have hml := F.2.2.2.1
  have hown := F.2.2.2.2.1
  have hts := F.2.2.2.2.2.1
  have hG : ∀ x ∈ gT, x.before args s = true := fun x h => hts x (List.mem_cons_of_mem _ h)
  unfold fMX12_uses_0_0 at hf
  refine lv_aload_n hx hb dX12_uses_0 rfl (lv_at hl 0 rfl) ?_
  refine lv_iload_n hx hb dX12_uses_1 rfl (lv_at hl 1 rfl) ?_
  obtain ⟨o1, h2, hf⟩ := gw_bind hf
  refine gw_Vi (As := [.int x1]) (mc' := 0) (ms' := 0) F hW (mMX12_four_0 h2) (cwV 1 hts (gT_V q_7_99 q_7_101 qp_55 q_1_12 q_7_102) rfl rfl rfl hdX12_four ⟨Nat.le_of_ble_eq_true rfl, Nat.le_of_ble_eq_true rfl⟩) 0 10 (aM_0 K σ) rfl rfl hl.1 rfl (Nat.le_of_ble_eq_true rfl) dX12_uses_2 ⟨Nat.le_of_ble_eq_true rfl, Nat.le_of_ble_eq_true rfl⟩ rfl rfl (fun H locs hW => ?_)
  refine lv_if_ne (tgt := 12) hx hb dX12_uses_5 (by decide) (fun c4 => ?_) (fun c4 => ?_)
  · replace hf := (if_neg c4).symm.trans hf
    refine lv_bipush (v := (8 : Int32)) hx hb dX12_uses_12 (by decide) ?_
    refine lv_aload_n hx hb dX12_uses_14 rfl (lv_at hl 0 rfl) ?_
    refine lv_iload_n hx hb dX12_uses_15 rfl (lv_at hl 1 rfl) ?_
    refine lv_bipush (v := (6 : Int32)) hx hb dX12_uses_16 (by decide) ?_
    refine lv_iadd hx hb dX12_uses_18 ?_
    obtain ⟨o5, h6, hf⟩ := gw_bind hf
    refine gw_Vi (As := [.int (x1 + (6 : Int32))]) (mc' := 0) (ms' := 0) F hW (mMX12_one_0 h6) (cwV 1 hts (gT_V q_7_107 q_7_109 qp_57 q_1_12 q_7_110) rfl rfl rfl hdX12_one ⟨Nat.le_of_ble_eq_true rfl, Nat.le_of_ble_eq_true rfl⟩) 0 10 (aM_0 K o1.2) rfl rfl hl.1 rfl (Nat.le_of_ble_eq_true rfl) dX12_uses_19 ⟨Nat.le_of_ble_eq_true rfl, Nat.le_of_ble_eq_true rfl⟩ rfl rfl (fun H locs hW => ?_)
    refine lv_iconst (v := (4 : Int32)) hx hb dX12_uses_22 (by decide) ?_
    obtain ⟨o8, h9, hf⟩ := gw_bind hf
    refine gw_Si (As := [.int o5.1, .int (4 : Int32)]) (mc' := 0) (ms' := 0) F hW (mMX12_parts h9) (va_cwS 2 hts (gT_S q_6_230 q_6_231 q_1_12 q_6_232) rfl rfl rfl hdX12_parts.2 ⟨Nat.le_of_ble_eq_true rfl, Nat.le_of_ble_eq_true rfl⟩) rfl hl.1 rfl (Nat.le_of_ble_eq_true rfl) dX12_uses_23 ⟨Nat.le_of_ble_eq_true rfl, Nat.le_of_ble_eq_true rfl⟩ rfl rfl (fun H locs hW => ?_)
    refine lv_iconst (v := (4 : Int32)) hx hb dX12_uses_26 (by decide) ?_
    refine lv_imul hx hb dX12_uses_27 ?_
    refine lv_iadd hx hb dX12_uses_28 ?_
    exact gw_reti F hW hf dX12_uses_29
  · replace hf := (if_pos c4).symm.trans hf
    refine lv_iconst (v := (0 : Int32)) hx hb dX12_uses_8 (by decide) ?_
    refine lv_goto (tgt := 29) hx hb dX12_uses_9 (by decide) ?_
    exact gw_reti F hW hf dX12_uses_29
set_option maxHeartbeats 4000000 in
set_option maxRecDepth 100000 in
theorem mMX12_uses_0 {l : Launch} {K : KX} {σ : XS} {x1 : Int32} {o : (Int32 × XS)} (hf : fMX12_uses_0 (kn K) x1 σ = some o) : gw_Mi l (kD K) vwCl (tyM K) (wM K) yX12_uses wsX12_uses rMX12_uses_0 [.ref (ka K 0), .int x1] σ o := by
  intro sz
  refine gw_body (cc := cX12_uses) (maxL := 2) (yret := some .int) (by decide +kernel) rfl ?_ (Nat.le_of_ble_eq_true rfl)
  intro p e s m below meth c F hsz hW ls hl
  exact wMX12_uses_0_0 F x1 σ o hf s.heap [] ls hl hW
abbrev rMX12_finds_0 : Room := { frames := 3, cells := 0, slots := 0, locals := 63 }
def PMX12_finds_0_38 (p : Program) (l : Launch) (e : Env) (s : State) (m : MethodId) (args : Array Value) (below : List Frame) (meth : Method) (c : Code) (A : Nat → Prop) (K : KX) (t : (Int32 × Int32 × Int32 × Int32 × Int32 × XS)) (o : (Int32 × XS)) : Prop := ∀ (H : Heap) (locs : List Loc) (ls : Array Slot), lv_has ls 7 [(0, .ref (ka K 0)), (1, .int t.1), (2, .int t.2.1), (3, .int t.2.2.1), (4, .int t.2.2.2.1), (5, .int t.2.2.2.2.1)] → gw_ (kD K) vwCl (tyM K) (wM K) A s t.2.2.2.2.2 H locs → W p l e rMX12_finds_0 s m args below meth c H locs 0 0 (MQ below (va_Qi (fun r u => (r = o.1 ∧ u = o.2) ∧ (o.1 = 0 ∨ o.1 = 1)) (gw_B (kD K) vwCl (tyM K) (wM K) A) A) args s rMX12_finds_0.cells rMX12_finds_0.slots A) (F0 m 38 ls [])
def PMX12_finds_0_15 (p : Program) (l : Launch) (e : Env) (s : State) (m : MethodId) (args : Array Value) (below : List Frame) (meth : Method) (c : Code) (A : Nat → Prop) (K : KX) (t : (Int32 × Int32 × Int32 × Int32 × XS)) (o : (Int32 × XS)) : Prop := ∀ (H : Heap) (locs : List Loc) (ls : Array Slot), lv_has ls 7 [(0, .ref (ka K 0)), (1, .int t.1), (2, .int t.2.1), (3, .int t.2.2.1), (4, .int t.2.2.2.1)] → gw_ (kD K) vwCl (tyM K) (wM K) A s t.2.2.2.2 H locs → W p l e rMX12_finds_0 s m args below meth c H locs 0 0 (MQ below (va_Qi (fun r u => (r = o.1 ∧ u = o.2) ∧ (o.1 = 0 ∨ o.1 = 1)) (gw_B (kD K) vwCl (tyM K) (wM K) A) A) args s rMX12_finds_0.cells rMX12_finds_0.slots A) (F0 m 15 ls [])
set_option maxHeartbeats 4000000 in
set_option maxRecDepth 100000 in
theorem wMX12_finds_0_117 {p : Program} {l : Launch} {e : Env} {s : State} {m : MethodId} {args : Array Value} {below : List Frame} {meth : Method} {c : Code} {A : Nat → Prop} {K : KX} (F : fx_ p s m args meth c cX12_finds 7 (some .boolean) RX12 wsX12_finds) {k15 : (Int32 × Int32 × Int32 × Int32 × XS) → Option (Int32 × XS)} (hk15 : ∀ t o, k15 t = some o → PMX12_finds_0_15 p l e s m args below meth c A K t o) {k38 : (Int32 × Int32 × Int32 × Int32 × Int32 × XS) → Option (Int32 × XS)} (hk38 : ∀ t o, k38 t = some o → PMX12_finds_0_38 p l e s m args below meth c A K t o) (x1 : Int32) (x2 : Int32) (x3 : Int32) (x4 : Int32) (x5 : Int32) (σ : XS) (o : (Int32 × XS)) (hf : fMX12_finds_0_117 (kn K) k15 k38 x1 x2 x3 x4 x5 σ = some o) (H : Heap) (locs : List Loc) (ls : Array Slot) (hl : lv_has ls 7 [(0, .ref (ka K 0)), (1, .int x1), (2, .int x2), (3, .int x3), (4, .int x4), (5, .int x5)]) (hW : gw_ (kD K) vwCl (tyM K) (wM K) A s σ H locs) : W p l e rMX12_finds_0 s m args below meth c H locs 0 0 (MQ below (va_Qi (fun r u => (r = o.1 ∧ u = o.2) ∧ (o.1 = 0 ∨ o.1 = 1)) (gw_B (kD K) vwCl (tyM K) (wM K) A) A) args s rMX12_finds_0.cells rMX12_finds_0.slots A) (F0 m 117 ls []) := by
  have hx := F.1
  have hb := F.2.1
  have hml := F.2.2.2.1
  have hown := F.2.2.2.2.1
  have hts := F.2.2.2.2.2.1
  have hG : ∀ x ∈ gT, x.before args s = true := fun x h => hts x (List.mem_cons_of_mem _ h)
  unfold fMX12_finds_0_117 at hf
  refine lv_aload_n hx hb dX12_finds_117 rfl (lv_at hl 0 rfl) ?_
  refine lv_iload hx hb dX12_finds_118 (lv_at hl 5 rfl) ?_
  refine gw_put (σ' := (stS σ 11 x5)) (ty := .int) F inc_X12 tyX12 tyX12_ok nmX12 hW 0 10 29 (aM_0 K σ) rfl (by decide) (hG _ q_6_141) (fun _ h9 => h9) rfl (by decide +kernel) rfl rfl (Nat.le_of_ble_eq_true rfl) dX12_finds_120 (sSM_11 _ _ _) (fun H locs hW => ?_)
  refine lv_iload hx hb dX12_finds_123 (lv_at hl 5 rfl) ?_
  refine lv_aload_n hx hb dX12_finds_125 rfl (lv_at hl 0 rfl) ?_
  refine lv_iload hx hb dX12_finds_126 (lv_at hl 5 rfl) ?_
  refine lv_iconst (v := (4 : Int32)) hx hb dX12_finds_128 (by decide) ?_
  refine lv_iadd hx hb dX12_finds_129 ?_
  obtain ⟨o8, h9, hf⟩ := gw_bind hf
  refine gw_Vi (As := [.int (x5 + (4 : Int32))]) (mc' := 0) (ms' := 0) F hW (mMX12_two_0 h9) (cwV 1 hts (gT_V q_7_103 q_7_105 qp_56 q_1_12 q_7_106) rfl rfl rfl hdX12_two ⟨Nat.le_of_ble_eq_true rfl, Nat.le_of_ble_eq_true rfl⟩) 0 10 (aM_0 K (stS σ 11 x5)) rfl rfl hl.1 rfl (Nat.le_of_ble_eq_true rfl) dX12_finds_130 ⟨Nat.le_of_ble_eq_true rfl, Nat.le_of_ble_eq_true rfl⟩ rfl rfl (fun H locs hW => ?_)
  refine lv_iadd hx hb dX12_finds_133 ?_
  refine lv_istore (lv' := [(5, .int (x5 + o8.1)), (0, .ref (ka K 0)), (1, .int x1), (2, .int x2), (3, .int x3), (4, .int x4)]) hx hb dX12_finds_134 hl (by decide) rfl (fun ls hl => ?_)
  refine lv_goto (tgt := 38) hx hb dX12_finds_136 (by decide) ?_
  exact hk38 _ _ hf _ _ _ (lv_sub hl [1, 2, 3, 4, 5, 0] rfl) hW
set_option maxHeartbeats 4000000 in
set_option maxRecDepth 100000 in
theorem wMX12_finds_0_75 {p : Program} {l : Launch} {e : Env} {s : State} {m : MethodId} {args : Array Value} {below : List Frame} {meth : Method} {c : Code} {A : Nat → Prop} {K : KX} (F : fx_ p s m args meth c cX12_finds 7 (some .boolean) RX12 wsX12_finds) {k15 : (Int32 × Int32 × Int32 × Int32 × XS) → Option (Int32 × XS)} (hk15 : ∀ t o, k15 t = some o → PMX12_finds_0_15 p l e s m args below meth c A K t o) {k38 : (Int32 × Int32 × Int32 × Int32 × Int32 × XS) → Option (Int32 × XS)} (hk38 : ∀ t o, k38 t = some o → PMX12_finds_0_38 p l e s m args below meth c A K t o) (x1 : Int32) (x2 : Int32) (x3 : Int32) (x4 : Int32) (x5 : Int32) (y0 : Int32) (σ : XS) (o : (Int32 × XS)) (hf : fMX12_finds_0_75 (kn K) k15 k38 x1 x2 x3 x4 x5 y0 σ = some o) (H : Heap) (locs : List Loc) (ls : Array Slot) (hl : lv_has ls 7 [(0, .ref (ka K 0)), (1, .int x1), (2, .int x2), (3, .int x3), (4, .int x4), (5, .int x5)]) (hW : gw_ (kD K) vwCl (tyM K) (wM K) A s σ H locs) : W p l e rMX12_finds_0 s m args below meth c H locs 0 0 (MQ below (va_Qi (fun r u => (r = o.1 ∧ u = o.2) ∧ (o.1 = 0 ∨ o.1 = 1)) (gw_B (kD K) vwCl (tyM K) (wM K) A) A) args s rMX12_finds_0.cells rMX12_finds_0.slots A) (F0 m 75 ls [.int y0]) := by
  have hx := F.1
  have hb := F.2.1
  have hml := F.2.2.2.1
  have hown := F.2.2.2.2.1
  have hts := F.2.2.2.2.2.1
  have hG : ∀ x ∈ gT, x.before args s = true := fun x h => hts x (List.mem_cons_of_mem _ h)
  unfold fMX12_finds_0_75 at hf
  refine lv_istore (lv' := [(6, .int y0), (0, .ref (ka K 0)), (1, .int x1), (2, .int x2), (3, .int x3), (4, .int x4), (5, .int x5)]) hx hb dX12_finds_75 hl (by decide) rfl (fun ls hl => ?_)
  refine lv_iload hx hb dX12_finds_77 (lv_at hl 0 rfl) ?_
  refine lv_if_ne (tgt := 117) hx hb dX12_finds_79 (by decide) (fun c7 => ?_) (fun c7 => ?_)
  · replace hf := (if_neg c7).symm.trans hf
    exact wMX12_finds_0_117 F hk15 hk38 x1 x2 x3 x4 x5 _ _ hf _ _ _ (lv_sub hl [1, 2, 3, 4, 5, 6] rfl) hW
  · replace hf := (if_pos c7).symm.trans hf
    refine lv_aload_n hx hb dX12_finds_82 rfl (lv_at hl 1 rfl) ?_
    refine lv_iload hx hb dX12_finds_83 (lv_at hl 6 rfl) ?_
    obtain ⟨o11, h12, hf⟩ := gw_bind hf
    refine gw_Vi (As := [.int x5]) (mc' := 0) (ms' := 0) F hW (mMX12_four_0 h12) (cwV 1 hts (gT_V q_7_99 q_7_101 qp_55 q_1_12 q_7_102) rfl rfl rfl hdX12_four ⟨Nat.le_of_ble_eq_true rfl, Nat.le_of_ble_eq_true rfl⟩) 0 10 (aM_0 K σ) rfl rfl hl.1 rfl (Nat.le_of_ble_eq_true rfl) dX12_finds_85 ⟨Nat.le_of_ble_eq_true rfl, Nat.le_of_ble_eq_true rfl⟩ rfl rfl (fun H locs hW => ?_)
    refine lv_if_eq (tgt := 117) hx hb dX12_finds_88 (by decide) (fun c14 => ?_) (fun c14 => ?_)
    · replace hf := (if_pos c14).symm.trans hf
      exact wMX12_finds_0_117 F hk15 hk38 x1 x2 x3 x4 x5 _ _ hf _ _ _ (lv_sub hl [1, 2, 3, 4, 5, 6] rfl) hW
    · replace hf := (if_neg c14).symm.trans hf
      refine lv_aload_n hx hb dX12_finds_91 rfl (lv_at hl 1 rfl) ?_
      refine lv_iload hx hb dX12_finds_92 (lv_at hl 6 rfl) ?_
      refine gw_put (σ' := (stS o11.2 10 x5)) (ty := .int) F inc_X12 tyX12 tyX12_ok nmX12 hW 0 10 28 (aM_0 K o11.2) rfl (by decide) (hG _ q_6_140) (fun _ h9 => h9) rfl (by decide +kernel) rfl rfl (Nat.le_of_ble_eq_true rfl) dX12_finds_94 (sSM_10 _ _ _) (fun H locs hW => ?_)
      refine lv_aload_n hx hb dX12_finds_97 rfl (lv_at hl 1 rfl) ?_
      refine gw_get (v := .int (o11.2.1 13)) F inc_X12 hW 0 10 32 (aM_0 K (stS o11.2 10 x5)) rfl (by decide) (hG _ q_6_144) (fun _ h9 => h9) rfl dX12_finds_98 ?_
      refine lv_iload_n hx hb dX12_finds_101 rfl (lv_at hl 3 rfl) ?_
      refine lv_icmp_ne (tgt := 107) hx hb dX12_finds_102 (by decide) (fun c15 => ?_) (fun c15 => ?_)
      · replace hf := (if_neg c15).symm.trans hf
        refine lv_aload_n hx hb dX12_finds_107 rfl (lv_at hl 1 rfl) ?_
        refine lv_dup hx hb dX12_finds_108 rfl ?_
        refine gw_get (v := .int (o11.2.1 13)) F inc_X12 hW 0 10 32 (aM_0 K (stS o11.2 10 x5)) rfl (by decide) (hG _ q_6_144) (fun _ h9 => h9) rfl dX12_finds_109 ?_
        refine lv_iconst (v := (1 : Int32)) hx hb dX12_finds_112 (by decide) ?_
        refine lv_iadd hx hb dX12_finds_113 ?_
        refine gw_put (σ' := (stS (stS o11.2 10 x5) 13 ((o11.2.1 13) + (1 : Int32)))) (ty := .int) F inc_X12 tyX12 tyX12_ok nmX12 hW 0 10 32 (aM_0 K (stS o11.2 10 x5)) rfl (by decide) (hG _ q_6_144) (fun _ h9 => h9) rfl (by decide +kernel) rfl rfl (Nat.le_of_ble_eq_true rfl) dX12_finds_114 (sSM_13 _ _ _) (fun H locs hW => ?_)
        exact wMX12_finds_0_117 F hk15 hk38 x1 x2 x3 x4 x5 _ _ hf _ _ _ (lv_sub hl [1, 2, 3, 4, 5, 6] rfl) hW
      · replace hf := (if_pos c15).symm.trans hf
        refine lv_iconst (v := (1 : Int32)) hx hb dX12_finds_105 (by decide) ?_
        exact gw_retz F hW hf (Or.inr rfl) dX12_finds_106
set_option maxHeartbeats 4000000 in
set_option maxRecDepth 100000 in
theorem wMX12_finds_0_74 {p : Program} {l : Launch} {e : Env} {s : State} {m : MethodId} {args : Array Value} {below : List Frame} {meth : Method} {c : Code} {A : Nat → Prop} {K : KX} (F : fx_ p s m args meth c cX12_finds 7 (some .boolean) RX12 wsX12_finds) {k15 : (Int32 × Int32 × Int32 × Int32 × XS) → Option (Int32 × XS)} (hk15 : ∀ t o, k15 t = some o → PMX12_finds_0_15 p l e s m args below meth c A K t o) {k38 : (Int32 × Int32 × Int32 × Int32 × Int32 × XS) → Option (Int32 × XS)} (hk38 : ∀ t o, k38 t = some o → PMX12_finds_0_38 p l e s m args below meth c A K t o) (x1 : Int32) (x2 : Int32) (x3 : Int32) (x4 : Int32) (x5 : Int32) (σ : XS) (o : (Int32 × XS)) (hf : fMX12_finds_0_74 (kn K) k15 k38 x1 x2 x3 x4 x5 σ = some o) (H : Heap) (locs : List Loc) (ls : Array Slot) (hl : lv_has ls 7 [(0, .ref (ka K 0)), (1, .int x1), (2, .int x2), (3, .int x3), (4, .int x4), (5, .int x5)]) (hW : gw_ (kD K) vwCl (tyM K) (wM K) A s σ H locs) : W p l e rMX12_finds_0 s m args below meth c H locs 0 0 (MQ below (va_Qi (fun r u => (r = o.1 ∧ u = o.2) ∧ (o.1 = 0 ∨ o.1 = 1)) (gw_B (kD K) vwCl (tyM K) (wM K) A) A) args s rMX12_finds_0.cells rMX12_finds_0.slots A) (F0 m 74 ls []) := by
  have hx := F.1
  have hb := F.2.1
  have hml := F.2.2.2.1
  have hown := F.2.2.2.2.1
  have hts := F.2.2.2.2.2.1
  have hG : ∀ x ∈ gT, x.before args s = true := fun x h => hts x (List.mem_cons_of_mem _ h)
  unfold fMX12_finds_0_74 at hf
  refine lv_iconst (v := (0 : Int32)) hx hb dX12_finds_74 (by decide) ?_
  exact wMX12_finds_0_75 F hk15 hk38 x1 x2 x3 x4 x5 (0 : Int32) _ _ hf _ _ _ (lv_sub hl [0, 1, 2, 3, 4, 5] rfl) hW
set_option maxHeartbeats 4000000 in
set_option maxRecDepth 100000 in
theorem wMX12_finds_0_38 {p : Program} {l : Launch} {e : Env} {s : State} {m : MethodId} {args : Array Value} {below : List Frame} {meth : Method} {c : Code} {A : Nat → Prop} {K : KX} (F : fx_ p s m args meth c cX12_finds 7 (some .boolean) RX12 wsX12_finds) {k15 : (Int32 × Int32 × Int32 × Int32 × XS) → Option (Int32 × XS)} (hk15 : ∀ t o, k15 t = some o → PMX12_finds_0_15 p l e s m args below meth c A K t o) {k38 : (Int32 × Int32 × Int32 × Int32 × Int32 × XS) → Option (Int32 × XS)} (hk38 : ∀ t o, k38 t = some o → PMX12_finds_0_38 p l e s m args below meth c A K t o) (x1 : Int32) (x2 : Int32) (x3 : Int32) (x4 : Int32) (x5 : Int32) (σ : XS) (o : (Int32 × XS)) (hf : fMX12_finds_0_38 (kn K) k15 k38 x1 x2 x3 x4 x5 σ = some o) (H : Heap) (locs : List Loc) (ls : Array Slot) (hl : lv_has ls 7 [(0, .ref (ka K 0)), (1, .int x1), (2, .int x2), (3, .int x3), (4, .int x4), (5, .int x5)]) (hW : gw_ (kD K) vwCl (tyM K) (wM K) A s σ H locs) : W p l e rMX12_finds_0 s m args below meth c H locs 0 0 (MQ below (va_Qi (fun r u => (r = o.1 ∧ u = o.2) ∧ (o.1 = 0 ∨ o.1 = 1)) (gw_B (kD K) vwCl (tyM K) (wM K) A) A) args s rMX12_finds_0.cells rMX12_finds_0.slots A) (F0 m 38 ls []) := by
  have hx := F.1
  have hb := F.2.1
  have hml := F.2.2.2.1
  have hown := F.2.2.2.2.1
  have hts := F.2.2.2.2.2.1
  have hG : ∀ x ∈ gT, x.before args s = true := fun x h => hts x (List.mem_cons_of_mem _ h)
  unfold fMX12_finds_0_38 at hf
  refine lv_iload hx hb dX12_finds_38 (lv_at hl 5 rfl) ?_
  refine lv_sipush (v := (1024 : Int32)) hx hb dX12_finds_40 (by decide) ?_
  refine lv_iload_n hx hb dX12_finds_43 rfl (lv_at hl 3 rfl) ?_
  refine lv_imul hx hb dX12_finds_44 ?_
  refine lv_sipush (v := (1024 : Int32)) hx hb dX12_finds_45 (by decide) ?_
  refine lv_iadd hx hb dX12_finds_48 ?_
  refine lv_icmp_ge (tgt := 139) hx hb dX12_finds_49 (by decide) (fun c4 => ?_) (fun c4 => ?_)
  · replace hf := (if_pos c4).symm.trans hf
    refine lv_aload_n hx hb dX12_finds_139 rfl (lv_at hl 0 rfl) ?_
    refine gw_get (v := .ref (ka K 6)) F inc_X12 hW 0 10 15 (aM_0 K σ) rfl (by decide) (hG _ q_6_127) (fun _ h9 => h9) rfl dX12_finds_140 ?_
    refine lv_iload_n hx hb dX12_finds_143 rfl (lv_at hl 3 rfl) ?_
    rcases Decidable.em (x3 < 0 ∨ 512 ≤ x3.toNatClampNeg) with c5 | c5
    · replace hf := (if_pos c5).symm.trans hf
      exact absurd hf (by simp)
    · replace hf := (if_neg c5).symm.trans hf
      refine gw_iald F hW 6 5 (aM_6 K σ) rfl c5 dX12_finds_144 ?_
      refine lv_istore_n (lv' := [(3, .int (σ.2.1 5 x3.toNatClampNeg)), (0, .ref (ka K 0)), (1, .int x1), (2, .int x2), (4, .int x4), (5, .int x5)]) hx hb dX12_finds_145 rfl hl (by decide) rfl (fun ls hl => ?_)
      refine lv_iinc (v := (x4 + (1 : Int32))) (lv' := [(4, .int (x4 + (1 : Int32))), (3, .int (σ.2.1 5 x3.toNatClampNeg)), (0, .ref (ka K 0)), (1, .int x1), (2, .int x2), (5, .int x5)]) hx hb dX12_finds_146 hl (k := 4) rfl rfl (by decide) rfl (fun ls hl => ?_)
      refine lv_goto (tgt := 15) hx hb dX12_finds_149 (by decide) ?_
      exact hk15 _ _ hf _ _ _ (lv_sub hl [2, 3, 4, 1, 0] rfl) hW
  · replace hf := (if_neg c4).symm.trans hf
    refine lv_iload hx hb dX12_finds_52 (lv_at hl 4 rfl) ?_
    refine lv_if_ne (tgt := 74) hx hb dX12_finds_54 (by decide) (fun c6 => ?_) (fun c6 => ?_)
    · replace hf := (if_neg c6).symm.trans hf
      exact wMX12_finds_0_74 F hk15 hk38 x1 x2 x3 x4 x5 _ _ hf _ _ _ (lv_sub hl [0, 1, 2, 3, 4, 5] rfl) hW
    · replace hf := (if_pos c6).symm.trans hf
      refine lv_iload hx hb dX12_finds_57 (lv_at hl 5 rfl) ?_
      refine lv_sipush (v := (1024 : Int32)) hx hb dX12_finds_59 (by decide) ?_
      refine lv_iload_n hx hb dX12_finds_62 rfl (lv_at hl 3 rfl) ?_
      refine lv_imul hx hb dX12_finds_63 ?_
      refine lv_bipush (v := (24 : Int32)) hx hb dX12_finds_64 (by decide) ?_
      refine lv_iadd hx hb dX12_finds_66 ?_
      refine lv_icmp_ge (tgt := 74) hx hb dX12_finds_67 (by decide) (fun c16 => ?_) (fun c16 => ?_)
      · replace hf := (if_pos c16).symm.trans hf
        exact wMX12_finds_0_74 F hk15 hk38 x1 x2 x3 x4 x5 _ _ hf _ _ _ (lv_sub hl [0, 1, 2, 3, 4, 5] rfl) hW
      · replace hf := (if_neg c16).symm.trans hf
        refine lv_iconst (v := (1 : Int32)) hx hb dX12_finds_70 (by decide) ?_
        refine lv_goto (tgt := 75) hx hb dX12_finds_71 (by decide) ?_
        exact wMX12_finds_0_75 F hk15 hk38 x1 x2 x3 x4 x5 (1 : Int32) _ _ hf _ _ _ (lv_sub hl [0, 1, 2, 3, 4, 5] rfl) hW
set_option maxHeartbeats 4000000 in
set_option maxRecDepth 100000 in
theorem wMX12_finds_0_15 {p : Program} {l : Launch} {e : Env} {s : State} {m : MethodId} {args : Array Value} {below : List Frame} {meth : Method} {c : Code} {A : Nat → Prop} {K : KX} (F : fx_ p s m args meth c cX12_finds 7 (some .boolean) RX12 wsX12_finds) {k15 : (Int32 × Int32 × Int32 × Int32 × XS) → Option (Int32 × XS)} (hk15 : ∀ t o, k15 t = some o → PMX12_finds_0_15 p l e s m args below meth c A K t o) (x1 : Int32) (x2 : Int32) (x3 : Int32) (x4 : Int32) (σ : XS) (o : (Int32 × XS)) (hf : fMX12_finds_0_15 (kn K) k15 x1 x2 x3 x4 σ = some o) (H : Heap) (locs : List Loc) (ls : Array Slot) (hl : lv_has ls 7 [(0, .ref (ka K 0)), (1, .int x1), (2, .int x2), (3, .int x3), (4, .int x4)]) (hW : gw_ (kD K) vwCl (tyM K) (wM K) A s σ H locs) : W p l e rMX12_finds_0 s m args below meth c H locs 0 0 (MQ below (va_Qi (fun r u => (r = o.1 ∧ u = o.2) ∧ (o.1 = 0 ∨ o.1 = 1)) (gw_B (kD K) vwCl (tyM K) (wM K) A) A) args s rMX12_finds_0.cells rMX12_finds_0.slots A) (F0 m 15 ls []) := by
  have hx := F.1
  have hb := F.2.1
  have hml := F.2.2.2.1
  have hown := F.2.2.2.2.1
  have hts := F.2.2.2.2.2.1
  have hG : ∀ x ∈ gT, x.before args s = true := fun x h => hts x (List.mem_cons_of_mem _ h)
  unfold fMX12_finds_0_15 at hf
  refine lv_iload hx hb dX12_finds_15 (lv_at hl 4 rfl) ?_
  refine lv_aload_n hx hb dX12_finds_17 rfl (lv_at hl 0 rfl) ?_
  refine gw_get (v := .ref (ka K 10)) F inc_X12 hW 0 10 19 (aM_0 K σ) rfl (by decide) (hG _ q_6_131) (fun _ h9 => h9) rfl dX12_finds_18 ?_
  refine lv_iload_n hx hb dX12_finds_21 rfl (lv_at hl 1 rfl) ?_
  rcases Decidable.em (x1 < 0 ∨ 2100 ≤ x1.toNatClampNeg) with c2 | c2
  · replace hf := (if_pos c2).symm.trans hf
    exact absurd hf (by simp)
  · replace hf := (if_neg c2).symm.trans hf
    refine gw_iald F hW 10 9 (aM_10 K σ) rfl c2 dX12_finds_22 ?_
    refine lv_icmp_ge (tgt := 152) hx hb dX12_finds_23 (by decide) (fun c3 => ?_) (fun c3 => ?_)
    · replace hf := (if_pos c3).symm.trans hf
      refine lv_iconst (v := (0 : Int32)) hx hb dX12_finds_152 (by decide) ?_
      exact gw_retz F hW hf (Or.inl rfl) dX12_finds_153
    · replace hf := (if_neg c3).symm.trans hf
      refine lv_aload_n hx hb dX12_finds_26 rfl (lv_at hl 0 rfl) ?_
      refine lv_iconst (v := (-1 : Int32)) hx hb dX12_finds_27 (by decide) ?_
      refine gw_put (σ' := (stS σ 11 (-1 : Int32))) (ty := .int) F inc_X12 tyX12 tyX12_ok nmX12 hW 0 10 29 (aM_0 K σ) rfl (by decide) (hG _ q_6_141) (fun _ h9 => h9) rfl (by decide +kernel) rfl rfl (Nat.le_of_ble_eq_true rfl) dX12_finds_28 (sSM_11 _ _ _) (fun H locs hW => ?_)
      refine lv_sipush (v := (1024 : Int32)) hx hb dX12_finds_31 (by decide) ?_
      refine lv_iload_n hx hb dX12_finds_34 rfl (lv_at hl 3 rfl) ?_
      refine lv_imul hx hb dX12_finds_35 ?_
      refine lv_istore (lv' := [(5, .int ((1024 : Int32) * x3)), (0, .ref (ka K 0)), (1, .int x1), (2, .int x2), (3, .int x3), (4, .int x4)]) hx hb dX12_finds_36 hl (by decide) rfl (fun ls hl => ?_)
      exact lfix_ind (P := PMX12_finds_0_38 p l e s m args below meth c A K) (fun k38 hk38 t o hf => wMX12_finds_0_38 F hk15 hk38 t.1 t.2.1 t.2.2.1 t.2.2.2.1 t.2.2.2.2.1 t.2.2.2.2.2 o hf) FU _ _ hf _ _ _ (lv_sub hl [1, 2, 3, 4, 5, 0] rfl) hW
set_option maxHeartbeats 4000000 in
set_option maxRecDepth 100000 in
theorem wMX12_finds_0_0 {p : Program} {l : Launch} {e : Env} {s : State} {m : MethodId} {args : Array Value} {below : List Frame} {meth : Method} {c : Code} {A : Nat → Prop} {K : KX} (F : fx_ p s m args meth c cX12_finds 7 (some .boolean) RX12 wsX12_finds) (x1 : Int32) (x2 : Int32) (σ : XS) (o : (Int32 × XS)) (hf : fMX12_finds_0_0 (kn K) x1 x2 σ = some o) (H : Heap) (locs : List Loc) (ls : Array Slot) (hl : lv_has ls 7 [(0, .ref (ka K 0)), (1, .int x1), (2, .int x2)]) (hW : gw_ (kD K) vwCl (tyM K) (wM K) A s σ H locs) : W p l e rMX12_finds_0 s m args below meth c H locs 0 0 (MQ below (va_Qi (fun r u => (r = o.1 ∧ u = o.2) ∧ (o.1 = 0 ∨ o.1 = 1)) (gw_B (kD K) vwCl (tyM K) (wM K) A) A) args s rMX12_finds_0.cells rMX12_finds_0.slots A) (F0 m 0 ls []) := by
  have hx := F.1
  have hb := F.2.1
  have hml := F.2.2.2.1
  have hown := F.2.2.2.2.1
  have hts := F.2.2.2.2.2.1
  have hG : ∀ x ∈ gT, x.before args s = true := fun x h => hts x (List.mem_cons_of_mem _ h)
  unfold fMX12_finds_0_0 at hf
  refine lv_aload_n hx hb dX12_finds_0 rfl (lv_at hl 0 rfl) ?_
  refine lv_iconst (v := (0 : Int32)) hx hb dX12_finds_1 (by decide) ?_
  refine gw_put (σ' := (stS σ 13 (0 : Int32))) (ty := .int) F inc_X12 tyX12 tyX12_ok nmX12 hW 0 10 32 (aM_0 K σ) rfl (by decide) (hG _ q_6_144) (fun _ h9 => h9) rfl (by decide +kernel) rfl rfl (Nat.le_of_ble_eq_true rfl) dX12_finds_2 (sSM_13 _ _ _) (fun H locs hW => ?_)
  refine lv_aload_n hx hb dX12_finds_5 rfl (lv_at hl 0 rfl) ?_
  refine gw_get (v := .ref (ka K 11)) F inc_X12 hW 0 10 20 (aM_0 K (stS σ 13 (0 : Int32))) rfl (by decide) (hG _ q_6_132) (fun _ h9 => h9) rfl dX12_finds_6 ?_
  refine lv_iload_n hx hb dX12_finds_9 rfl (lv_at hl 1 rfl) ?_
  rcases Decidable.em (x1 < 0 ∨ 2100 ≤ x1.toNatClampNeg) with c1 | c1
  · replace hf := (if_pos c1).symm.trans hf
    exact absurd hf (by simp)
  · replace hf := (if_neg c1).symm.trans hf
    refine gw_iald F hW 11 10 (aM_11 K (stS σ 13 (0 : Int32))) rfl c1 dX12_finds_10 ?_
    refine lv_istore_n (lv' := [(3, .int ((stS σ 13 (0 : Int32)).2.1 10 x1.toNatClampNeg)), (0, .ref (ka K 0)), (1, .int x1), (2, .int x2)]) hx hb dX12_finds_11 rfl hl (by decide) rfl (fun ls hl => ?_)
    refine lv_iconst (v := (0 : Int32)) hx hb dX12_finds_12 (by decide) ?_
    refine lv_istore (lv' := [(4, .int (0 : Int32)), (3, .int ((stS σ 13 (0 : Int32)).2.1 10 x1.toNatClampNeg)), (0, .ref (ka K 0)), (1, .int x1), (2, .int x2)]) hx hb dX12_finds_13 hl (by decide) rfl (fun ls hl => ?_)
    exact lfix_ind (P := PMX12_finds_0_15 p l e s m args below meth c A K) (fun k15 hk15 t o hf => wMX12_finds_0_15 F hk15 t.1 t.2.1 t.2.2.1 t.2.2.2.1 t.2.2.2.2 o hf) FU _ _ hf _ _ _ (lv_sub hl [2, 3, 4, 1, 0] rfl) hW
set_option maxHeartbeats 4000000 in
set_option maxRecDepth 100000 in
theorem mMX12_finds_0 {l : Launch} {K : KX} {σ : XS} {x1 : Int32} {x2 : Int32} {o : (Int32 × XS)} (hf : fMX12_finds_0 (kn K) x1 x2 σ = some o) : gw_Mz l (kD K) vwCl (tyM K) (wM K) yX12_finds wsX12_finds rMX12_finds_0 [.ref (ka K 0), .int x1, .int x2] σ o := by
  intro sz
  refine gw_body (cc := cX12_finds) (maxL := 7) (yret := some .boolean) (by decide +kernel) rfl ?_ (Nat.le_of_ble_eq_true rfl)
  intro p e s m below meth c F hsz hW ls hl
  exact wMX12_finds_0_0 F x1 x2 σ o hf s.heap [] ls hl hW
abbrev rMX12_count_0 : Room := { frames := 4, cells := 0, slots := 0, locals := 89 }
set_option maxHeartbeats 4000000 in
set_option maxRecDepth 100000 in
theorem wMX12_count_0_0 {p : Program} {l : Launch} {e : Env} {s : State} {m : MethodId} {args : Array Value} {below : List Frame} {meth : Method} {c : Code} {A : Nat → Prop} {K : KX} (F : fx_ p s m args meth c cX12_count 3 (some .int) RX12 wsX12_count) (x1 : Int32) (σ : XS) (o : (Int32 × XS)) (hf : fMX12_count_0_0 (kn K) x1 σ = some o) (H : Heap) (locs : List Loc) (ls : Array Slot) (hl : lv_has ls 3 [(0, .ref (ka K 0)), (1, .int x1)]) (hW : gw_ (kD K) vwCl (tyM K) (wM K) A s σ H locs) : W p l e rMX12_count_0 s m args below meth c H locs 0 0 (MQ below (gw_Qi (kD K) vwCl (tyM K) (wM K) A o) args s rMX12_count_0.cells rMX12_count_0.slots A) (F0 m 0 ls []) := by
  have hx := F.1
  have hb := F.2.1
  have hml := F.2.2.2.1
  have hown := F.2.2.2.2.1
  have hts := F.2.2.2.2.2.1
  have hG : ∀ x ∈ gT, x.before args s = true := fun x h => hts x (List.mem_cons_of_mem _ h)
  unfold fMX12_count_0_0 at hf
  refine lv_aload_n hx hb dX12_count_0 rfl (lv_at hl 0 rfl) ?_
  refine lv_iload_n hx hb dX12_count_1 rfl (lv_at hl 1 rfl) ?_
  refine lv_iconst (v := (-1 : Int32)) hx hb dX12_count_2 (by decide) ?_
  obtain ⟨o1, h2, hf⟩ := gw_bind hf
  refine gw_Vz (As := [.int x1, .int (-1 : Int32)]) (mc' := 0) (ms' := 0) F hW (mMX12_finds_0 h2) (cwV 2 hts (gT_V q_7_95 q_7_97 qp_54 q_1_12 q_7_98) rfl rfl rfl hdX12_finds ⟨Nat.le_of_ble_eq_true rfl, Nat.le_of_ble_eq_true rfl⟩) 0 10 (aM_0 K σ) rfl rfl hl.1 rfl (Nat.le_of_ble_eq_true rfl) dX12_count_3 ⟨Nat.le_of_ble_eq_true rfl, Nat.le_of_ble_eq_true rfl⟩ rfl rfl (fun H locs z3 hW => ?_)
  refine lv_istore_n (lv' := [(2, .int o1.1), (0, .ref (ka K 0)), (1, .int x1)]) hx hb dX12_count_6 rfl hl (by decide) rfl (fun ls hl => ?_)
  refine lv_iload_n hx hb dX12_count_7 rfl (lv_at hl 0 rfl) ?_
  refine lv_if_eq (tgt := 15) hx hb dX12_count_8 (by decide) (fun c4 => ?_) (fun c4 => ?_)
  · replace hf := (if_pos c4).symm.trans hf
    refine lv_aload_n hx hb dX12_count_15 rfl (lv_at hl 1 rfl) ?_
    refine gw_get (v := .int (o1.2.1 13)) F inc_X12 hW 0 10 32 (aM_0 K o1.2) rfl (by decide) (hG _ q_6_144) (fun _ h9 => h9) rfl dX12_count_16 ?_
    exact gw_reti F hW hf dX12_count_19
  · replace hf := (if_neg c4).symm.trans hf
    refine lv_iconst (v := (0 : Int32)) hx hb dX12_count_11 (by decide) ?_
    refine lv_goto (tgt := 19) hx hb dX12_count_12 (by decide) ?_
    exact gw_reti F hW hf dX12_count_19
set_option maxHeartbeats 4000000 in
set_option maxRecDepth 100000 in
theorem mMX12_count_0 {l : Launch} {K : KX} {σ : XS} {x1 : Int32} {o : (Int32 × XS)} (hf : fMX12_count_0 (kn K) x1 σ = some o) : gw_Mi l (kD K) vwCl (tyM K) (wM K) yX12_count wsX12_count rMX12_count_0 [.ref (ka K 0), .int x1] σ o := by
  intro sz
  refine gw_body (cc := cX12_count) (maxL := 3) (yret := some .int) (by decide +kernel) rfl ?_ (Nat.le_of_ble_eq_true rfl)
  intro p e s m below meth c F hsz hW ls hl
  exact wMX12_count_0_0 F x1 σ o hf s.heap [] ls hl hW
abbrev rMX12_none_0 : Room := { frames := 1, cells := 0, slots := 0, locals := 22 }
set_option maxHeartbeats 4000000 in
set_option maxRecDepth 100000 in
theorem wMX12_none_0_18 {p : Program} {l : Launch} {e : Env} {s : State} {m : MethodId} {args : Array Value} {below : List Frame} {meth : Method} {c : Code} {A : Nat → Prop} {K : KX} (F : fx_ p s m args meth c cX12_none 1 (some .boolean) RX12 wsX12_none) (y0 : Int32) (σ : XS) (o : (Int32 × XS)) (hf : fMX12_none_0_18 (kn K) y0 σ = some o) (H : Heap) (locs : List Loc) (ls : Array Slot) (hl : lv_has ls 1 []) (hW : gw_ (kD K) vwCl (tyM K) (wM K) A s σ H locs) : W p l e rMX12_none_0 s m args below meth c H locs 0 0 (MQ below (va_Qi (fun r u => (r = o.1 ∧ u = o.2) ∧ (o.1 = 0 ∨ o.1 = 1)) (gw_B (kD K) vwCl (tyM K) (wM K) A) A) args s rMX12_none_0.cells rMX12_none_0.slots A) (F0 m 18 ls [.int y0, .ref (ka K 0)]) := by
  have hx := F.1
  have hb := F.2.1
  have hml := F.2.2.2.1
  have hown := F.2.2.2.2.1
  have hts := F.2.2.2.2.2.1
  have hG : ∀ x ∈ gT, x.before args s = true := fun x h => hts x (List.mem_cons_of_mem _ h)
  unfold fMX12_none_0_18 at hf
  refine lv_iconst (v := (1 : Int32)) hx hb dX12_none_18 (by decide) ?_
  obtain ⟨o2, h3, hf⟩ := gw_bind hf
  refine gw_Vz (As := [.int y0, .int (1 : Int32)]) (mc' := 0) (ms' := 0) F hW (mMX12_fails_0 h3) (cwV 2 hts (gT_V q_7_87 q_7_89 qp_52 q_1_12 q_7_90) rfl rfl rfl hdX12_fails ⟨Nat.le_of_ble_eq_true rfl, Nat.le_of_ble_eq_true rfl⟩) 0 10 (aM_0 K σ) rfl rfl hl.1 rfl (Nat.le_of_ble_eq_true rfl) dX12_none_19 ⟨Nat.le_of_ble_eq_true rfl, Nat.le_of_ble_eq_true rfl⟩ rfl rfl (fun H locs z4 hW => ?_)
  exact gw_retz F hW hf z4 dX12_none_22
set_option maxHeartbeats 4000000 in
set_option maxRecDepth 100000 in
theorem wMX12_none_0_0 {p : Program} {l : Launch} {e : Env} {s : State} {m : MethodId} {args : Array Value} {below : List Frame} {meth : Method} {c : Code} {A : Nat → Prop} {K : KX} (F : fx_ p s m args meth c cX12_none 1 (some .boolean) RX12 wsX12_none) (σ : XS) (o : (Int32 × XS)) (hf : fMX12_none_0_0 (kn K) σ = some o) (H : Heap) (locs : List Loc) (ls : Array Slot) (hl : lv_has ls 1 [(0, .ref (ka K 0))]) (hW : gw_ (kD K) vwCl (tyM K) (wM K) A s σ H locs) : W p l e rMX12_none_0 s m args below meth c H locs 0 0 (MQ below (va_Qi (fun r u => (r = o.1 ∧ u = o.2) ∧ (o.1 = 0 ∨ o.1 = 1)) (gw_B (kD K) vwCl (tyM K) (wM K) A) A) args s rMX12_none_0.cells rMX12_none_0.slots A) (F0 m 0 ls []) := by
  have hx := F.1
  have hb := F.2.1
  have hml := F.2.2.2.1
  have hown := F.2.2.2.2.1
  have hts := F.2.2.2.2.2.1
  have hG : ∀ x ∈ gT, x.before args s = true := fun x h => hts x (List.mem_cons_of_mem _ h)
  unfold fMX12_none_0_0 at hf
  refine lv_aload_n hx hb dX12_none_0 rfl (lv_at hl 0 rfl) ?_
  refine lv_iconst (v := (0 : Int32)) hx hb dX12_none_1 (by decide) ?_
  refine gw_put (σ' := (stS σ 0 (0 : Int32))) (ty := .int) F inc_X12 tyX12 tyX12_ok nmX12 hW 0 10 0 (aM_0 K σ) rfl (by decide) (hG _ q_6_112) (fun _ h9 => h9) rfl (by decide +kernel) rfl rfl (Nat.le_of_ble_eq_true rfl) dX12_none_2 (sSM_0 _ _ _) (fun H locs hW => ?_)
  refine lv_aload_n hx hb dX12_none_5 rfl (lv_at hl 0 rfl) ?_
  refine lv_aload_n hx hb dX12_none_6 rfl (lv_at hl 0 rfl) ?_
  refine gw_get (v := .int (σ.1 2)) F inc_X12 hW 0 10 7 (aM_0 K (stS σ 0 (0 : Int32))) rfl (by decide) (hG _ q_6_119) (fun _ h9 => h9) rfl dX12_none_7 ?_
  refine lv_if_ne (tgt := 17) hx hb dX12_none_10 (by decide) (fun c1 => ?_) (fun c1 => ?_)
  · replace hf := (if_neg c1).symm.trans hf
    refine lv_iconst (v := (0 : Int32)) hx hb dX12_none_17 (by decide) ?_
    exact wMX12_none_0_18 F (0 : Int32) _ _ hf _ _ _ (lv_sub hl [] rfl) hW
  · replace hf := (if_pos c1).symm.trans hf
    refine lv_iconst (v := (1 : Int32)) hx hb dX12_none_13 (by decide) ?_
    refine lv_goto (tgt := 18) hx hb dX12_none_14 (by decide) ?_
    exact wMX12_none_0_18 F (1 : Int32) _ _ hf _ _ _ (lv_sub hl [] rfl) hW
set_option maxHeartbeats 4000000 in
set_option maxRecDepth 100000 in
theorem mMX12_none_0 {l : Launch} {K : KX} {σ : XS} {o : (Int32 × XS)} (hf : fMX12_none_0 (kn K) σ = some o) : gw_Mz l (kD K) vwCl (tyM K) (wM K) yX12_none wsX12_none rMX12_none_0 [.ref (ka K 0)] σ o := by
  intro sz
  refine gw_body (cc := cX12_none) (maxL := 1) (yret := some .boolean) (by decide +kernel) rfl ?_ (Nat.le_of_ble_eq_true rfl)
  intro p e s m below meth c F hsz hW ls hl
  exact wMX12_none_0_0 F σ o hf s.heap [] ls hl hW
abbrev rMX12_no_0 : Room := { frames := 4, cells := 0, slots := 0, locals := 89 }
set_option maxHeartbeats 4000000 in
set_option maxRecDepth 100000 in
theorem wMX12_no_0_36 {p : Program} {l : Launch} {e : Env} {s : State} {m : MethodId} {args : Array Value} {below : List Frame} {meth : Method} {c : Code} {A : Nat → Prop} {K : KX} (F : fx_ p s m args meth c cX12_no 2 (some .boolean) RX12 wsX12_no) (σ : XS) (o : (Int32 × XS)) (hf : fMX12_no_0_36 (kn K) σ = some o) (H : Heap) (locs : List Loc) (ls : Array Slot) (hl : lv_has ls 2 []) (hW : gw_ (kD K) vwCl (tyM K) (wM K) A s σ H locs) : W p l e rMX12_no_0 s m args below meth c H locs 0 0 (MQ below (va_Qi (fun r u => (r = o.1 ∧ u = o.2) ∧ (o.1 = 0 ∨ o.1 = 1)) (gw_B (kD K) vwCl (tyM K) (wM K) A) A) args s rMX12_no_0.cells rMX12_no_0.slots A) (F0 m 36 ls []) := by
  have hx := F.1
  have hb := F.2.1
  have hml := F.2.2.2.1
  have hown := F.2.2.2.2.1
  have hts := F.2.2.2.2.2.1
  have hG : ∀ x ∈ gT, x.before args s = true := fun x h => hts x (List.mem_cons_of_mem _ h)
  unfold fMX12_no_0_36 at hf
  refine lv_iconst (v := (1 : Int32)) hx hb dX12_no_36 (by decide) ?_
  refine lv_goto (tgt := 41) hx hb dX12_no_37 (by decide) ?_
  exact gw_retz F hW hf (Or.inr rfl) dX12_no_41
set_option maxHeartbeats 4000000 in
set_option maxRecDepth 100000 in
theorem wMX12_no_0_29 {p : Program} {l : Launch} {e : Env} {s : State} {m : MethodId} {args : Array Value} {below : List Frame} {meth : Method} {c : Code} {A : Nat → Prop} {K : KX} (F : fx_ p s m args meth c cX12_no 2 (some .boolean) RX12 wsX12_no) (y0 : Int32) (σ : XS) (o : (Int32 × XS)) (hf : fMX12_no_0_29 (kn K) y0 σ = some o) (H : Heap) (locs : List Loc) (ls : Array Slot) (hl : lv_has ls 2 []) (hW : gw_ (kD K) vwCl (tyM K) (wM K) A s σ H locs) : W p l e rMX12_no_0 s m args below meth c H locs 0 0 (MQ below (va_Qi (fun r u => (r = o.1 ∧ u = o.2) ∧ (o.1 = 0 ∨ o.1 = 1)) (gw_B (kD K) vwCl (tyM K) (wM K) A) A) args s rMX12_no_0.cells rMX12_no_0.slots A) (F0 m 29 ls [.int y0, .ref (ka K 0)]) := by
  have hx := F.1
  have hb := F.2.1
  have hml := F.2.2.2.1
  have hown := F.2.2.2.2.1
  have hts := F.2.2.2.2.2.1
  have hG : ∀ x ∈ gT, x.before args s = true := fun x h => hts x (List.mem_cons_of_mem _ h)
  unfold fMX12_no_0_29 at hf
  refine lv_iconst (v := (2 : Int32)) hx hb dX12_no_29 (by decide) ?_
  obtain ⟨o6, h7, hf⟩ := gw_bind hf
  refine gw_Vz (As := [.int y0, .int (2 : Int32)]) (mc' := 0) (ms' := 0) F hW (mMX12_fails_0 h7) (cwV 2 hts (gT_V q_7_87 q_7_89 qp_52 q_1_12 q_7_90) rfl rfl rfl hdX12_fails ⟨Nat.le_of_ble_eq_true rfl, Nat.le_of_ble_eq_true rfl⟩) 0 10 (aM_0 K σ) rfl rfl hl.1 rfl (Nat.le_of_ble_eq_true rfl) dX12_no_30 ⟨Nat.le_of_ble_eq_true rfl, Nat.le_of_ble_eq_true rfl⟩ rfl rfl (fun H locs z8 hW => ?_)
  refine lv_if_eq (tgt := 40) hx hb dX12_no_33 (by decide) (fun c9 => ?_) (fun c9 => ?_)
  · replace hf := (if_pos c9).symm.trans hf
    refine lv_iconst (v := (0 : Int32)) hx hb dX12_no_40 (by decide) ?_
    exact gw_retz F hW hf (Or.inl rfl) dX12_no_41
  · replace hf := (if_neg c9).symm.trans hf
    exact wMX12_no_0_36 F _ _ hf _ _ _ (lv_sub hl [] rfl) hW
set_option maxHeartbeats 4000000 in
set_option maxRecDepth 100000 in
theorem wMX12_no_0_24 {p : Program} {l : Launch} {e : Env} {s : State} {m : MethodId} {args : Array Value} {below : List Frame} {meth : Method} {c : Code} {A : Nat → Prop} {K : KX} (F : fx_ p s m args meth c cX12_no 2 (some .boolean) RX12 wsX12_no) (σ : XS) (o : (Int32 × XS)) (hf : fMX12_no_0_24 (kn K) σ = some o) (H : Heap) (locs : List Loc) (ls : Array Slot) (hl : lv_has ls 2 []) (hW : gw_ (kD K) vwCl (tyM K) (wM K) A s σ H locs) : W p l e rMX12_no_0 s m args below meth c H locs 0 0 (MQ below (va_Qi (fun r u => (r = o.1 ∧ u = o.2) ∧ (o.1 = 0 ∨ o.1 = 1)) (gw_B (kD K) vwCl (tyM K) (wM K) A) A) args s rMX12_no_0.cells rMX12_no_0.slots A) (F0 m 24 ls [.ref (ka K 0)]) := by
  have hx := F.1
  have hb := F.2.1
  have hml := F.2.2.2.1
  have hown := F.2.2.2.2.1
  have hts := F.2.2.2.2.2.1
  have hG : ∀ x ∈ gT, x.before args s = true := fun x h => hts x (List.mem_cons_of_mem _ h)
  unfold fMX12_no_0_24 at hf
  refine lv_iconst (v := (1 : Int32)) hx hb dX12_no_24 (by decide) ?_
  refine lv_goto (tgt := 29) hx hb dX12_no_25 (by decide) ?_
  exact wMX12_no_0_29 F (1 : Int32) _ _ hf _ _ _ (lv_sub hl [] rfl) hW
set_option maxHeartbeats 4000000 in
set_option maxRecDepth 100000 in
theorem wMX12_no_0_0 {p : Program} {l : Launch} {e : Env} {s : State} {m : MethodId} {args : Array Value} {below : List Frame} {meth : Method} {c : Code} {A : Nat → Prop} {K : KX} (F : fx_ p s m args meth c cX12_no 2 (some .boolean) RX12 wsX12_no) (x1 : Int32) (σ : XS) (o : (Int32 × XS)) (hf : fMX12_no_0_0 (kn K) x1 σ = some o) (H : Heap) (locs : List Loc) (ls : Array Slot) (hl : lv_has ls 2 [(0, .ref (ka K 0)), (1, .int x1)]) (hW : gw_ (kD K) vwCl (tyM K) (wM K) A s σ H locs) : W p l e rMX12_no_0 s m args below meth c H locs 0 0 (MQ below (va_Qi (fun r u => (r = o.1 ∧ u = o.2) ∧ (o.1 = 0 ∨ o.1 = 1)) (gw_B (kD K) vwCl (tyM K) (wM K) A) A) args s rMX12_no_0.cells rMX12_no_0.slots A) (F0 m 0 ls []) := by
  have hx := F.1
  have hb := F.2.1
  have hml := F.2.2.2.1
  have hown := F.2.2.2.2.1
  have hts := F.2.2.2.2.2.1
  have hG : ∀ x ∈ gT, x.before args s = true := fun x h => hts x (List.mem_cons_of_mem _ h)
  unfold fMX12_no_0_0 at hf
  refine lv_aload_n hx hb dX12_no_0 rfl (lv_at hl 0 rfl) ?_
  obtain ⟨o1, h2, hf⟩ := gw_bind hf
  refine gw_Vz (As := []) (mc' := 0) (ms' := 0) F hW (mMX12_none_0 h2) (cwV 0 hts (gT_V q_7_83 q_7_85 qp_51 q_1_12 q_7_86) rfl rfl rfl hdX12_none ⟨Nat.le_of_ble_eq_true rfl, Nat.le_of_ble_eq_true rfl⟩) 0 10 (aM_0 K σ) rfl rfl hl.1 rfl (Nat.le_of_ble_eq_true rfl) dX12_no_1 ⟨Nat.le_of_ble_eq_true rfl, Nat.le_of_ble_eq_true rfl⟩ rfl rfl (fun H locs z3 hW => ?_)
  refine lv_if_ne (tgt := 36) hx hb dX12_no_4 (by decide) (fun c4 => ?_) (fun c4 => ?_)
  · replace hf := (if_neg c4).symm.trans hf
    exact wMX12_no_0_36 F _ _ hf _ _ _ (lv_sub hl [] rfl) hW
  · replace hf := (if_pos c4).symm.trans hf
    refine lv_aload_n hx hb dX12_no_7 rfl (lv_at hl 0 rfl) ?_
    refine lv_iload_n hx hb dX12_no_8 rfl (lv_at hl 1 rfl) ?_
    refine lv_if_lt (tgt := 24) hx hb dX12_no_9 (by decide) (fun c5 => ?_) (fun c5 => ?_)
    · replace hf := (if_pos c5).symm.trans hf
      exact wMX12_no_0_24 F _ _ hf _ _ _ (lv_sub hl [] rfl) hW
    · replace hf := (if_neg c5).symm.trans hf
      refine lv_aload_n hx hb dX12_no_12 rfl (lv_at hl 0 rfl) ?_
      refine lv_aload_n hx hb dX12_no_13 rfl (lv_at hl 0 rfl) ?_
      refine gw_get (v := .int (o1.2.1 9)) F inc_X12 hW 0 10 27 (aM_0 K o1.2) rfl (by decide) (hG _ q_6_139) (fun _ h9 => h9) rfl dX12_no_14 ?_
      refine lv_iload_n hx hb dX12_no_17 rfl (lv_at hl 1 rfl) ?_
      obtain ⟨o10, h11, hf⟩ := gw_bind hf
      refine gw_Vz (As := [.int (o1.2.1 9), .int x1]) (mc' := 0) (ms' := 0) F hW (mMX12_finds_0 h11) (cwV 2 hts (gT_V q_7_95 q_7_97 qp_54 q_1_12 q_7_98) rfl rfl rfl hdX12_finds ⟨Nat.le_of_ble_eq_true rfl, Nat.le_of_ble_eq_true rfl⟩) 0 10 (aM_0 K o1.2) rfl rfl hl.1 rfl (Nat.le_of_ble_eq_true rfl) dX12_no_18 ⟨Nat.le_of_ble_eq_true rfl, Nat.le_of_ble_eq_true rfl⟩ rfl rfl (fun H locs z12 hW => ?_)
      refine lv_if_ne (tgt := 28) hx hb dX12_no_21 (by decide) (fun c13 => ?_) (fun c13 => ?_)
      · replace hf := (if_neg c13).symm.trans hf
        refine lv_iconst (v := (0 : Int32)) hx hb dX12_no_28 (by decide) ?_
        exact wMX12_no_0_29 F (0 : Int32) _ _ hf _ _ _ (lv_sub hl [] rfl) hW
      · replace hf := (if_pos c13).symm.trans hf
        exact wMX12_no_0_24 F _ _ hf _ _ _ (lv_sub hl [] rfl) hW
set_option maxHeartbeats 4000000 in
set_option maxRecDepth 100000 in
theorem mMX12_no_0 {l : Launch} {K : KX} {σ : XS} {x1 : Int32} {o : (Int32 × XS)} (hf : fMX12_no_0 (kn K) x1 σ = some o) : gw_Mz l (kD K) vwCl (tyM K) (wM K) yX12_no wsX12_no rMX12_no_0 [.ref (ka K 0), .int x1] σ o := by
  intro sz
  refine gw_body (cc := cX12_no) (maxL := 2) (yret := some .boolean) (by decide +kernel) rfl ?_ (Nat.le_of_ble_eq_true rfl)
  intro p e s m below meth c F hsz hW ls hl
  exact wMX12_no_0_0 F x1 σ o hf s.heap [] ls hl hW
abbrev rMX12_items_0 : Room := { frames := 5, cells := 0, slots := 0, locals := 111 }
set_option maxHeartbeats 4000000 in
set_option maxRecDepth 100000 in
theorem wMX12_items_0_0 {p : Program} {l : Launch} {e : Env} {s : State} {m : MethodId} {args : Array Value} {below : List Frame} {meth : Method} {c : Code} {A : Nat → Prop} {K : KX} (F : fx_ p s m args meth c cX12_items 1 (some .int) RX12 wsX12_items) (σ : XS) (o : (Int32 × XS)) (hf : fMX12_items_0_0 (kn K) σ = some o) (H : Heap) (locs : List Loc) (ls : Array Slot) (hl : lv_has ls 1 [(0, .ref (ka K 0))]) (hW : gw_ (kD K) vwCl (tyM K) (wM K) A s σ H locs) : W p l e rMX12_items_0 s m args below meth c H locs 0 0 (MQ below (gw_Qi (kD K) vwCl (tyM K) (wM K) A o) args s rMX12_items_0.cells rMX12_items_0.slots A) (F0 m 0 ls []) := by
  have hx := F.1
  have hb := F.2.1
  have hml := F.2.2.2.1
  have hown := F.2.2.2.2.1
  have hts := F.2.2.2.2.2.1
  have hG : ∀ x ∈ gT, x.before args s = true := fun x h => hts x (List.mem_cons_of_mem _ h)
  unfold fMX12_items_0_0 at hf
  refine lv_aload_n hx hb dX12_items_0 rfl (lv_at hl 0 rfl) ?_
  obtain ⟨o1, h2, hf⟩ := gw_bind hf
  refine gw_Vz (As := []) (mc' := 0) (ms' := 0) F hW (mMX12_none_0 h2) (cwV 0 hts (gT_V q_7_83 q_7_85 qp_51 q_1_12 q_7_86) rfl rfl rfl hdX12_none ⟨Nat.le_of_ble_eq_true rfl, Nat.le_of_ble_eq_true rfl⟩) 0 10 (aM_0 K σ) rfl rfl hl.1 rfl (Nat.le_of_ble_eq_true rfl) dX12_items_1 ⟨Nat.le_of_ble_eq_true rfl, Nat.le_of_ble_eq_true rfl⟩ rfl rfl (fun H locs z3 hW => ?_)
  refine lv_if_eq (tgt := 11) hx hb dX12_items_4 (by decide) (fun c4 => ?_) (fun c4 => ?_)
  · replace hf := (if_pos c4).symm.trans hf
    refine lv_aload_n hx hb dX12_items_11 rfl (lv_at hl 0 rfl) ?_
    refine lv_aload_n hx hb dX12_items_12 rfl (lv_at hl 0 rfl) ?_
    refine gw_get (v := .int (o1.2.1 9)) F inc_X12 hW 0 10 27 (aM_0 K o1.2) rfl (by decide) (hG _ q_6_139) (fun _ h9 => h9) rfl dX12_items_13 ?_
    obtain ⟨o5, h6, hf⟩ := gw_bind hf
    refine gw_Vi (As := [.int (o1.2.1 9)]) (mc' := 0) (ms' := 0) F hW (mMX12_count_0 h6) (cwV 1 hts (gT_V q_7_91 q_7_93 qp_53 q_1_12 q_7_94) rfl rfl rfl hdX12_count ⟨Nat.le_of_ble_eq_true rfl, Nat.le_of_ble_eq_true rfl⟩) 0 10 (aM_0 K o1.2) rfl rfl hl.1 rfl (Nat.le_of_ble_eq_true rfl) dX12_items_16 ⟨Nat.le_of_ble_eq_true rfl, Nat.le_of_ble_eq_true rfl⟩ rfl rfl (fun H locs hW => ?_)
    exact gw_reti F hW hf dX12_items_19
  · replace hf := (if_neg c4).symm.trans hf
    refine lv_iconst (v := (0 : Int32)) hx hb dX12_items_7 (by decide) ?_
    refine lv_goto (tgt := 19) hx hb dX12_items_8 (by decide) ?_
    exact gw_reti F hW hf dX12_items_19
set_option maxHeartbeats 4000000 in
set_option maxRecDepth 100000 in
theorem mMX12_items_0 {l : Launch} {K : KX} {σ : XS} {o : (Int32 × XS)} (hf : fMX12_items_0 (kn K) σ = some o) : gw_Mi l (kD K) vwCl (tyM K) (wM K) yX12_items wsX12_items rMX12_items_0 [.ref (ka K 0)] σ o := by
  intro sz
  refine gw_body (cc := cX12_items) (maxL := 1) (yret := some .int) (by decide +kernel) rfl ?_ (Nat.le_of_ble_eq_true rfl)
  intro p e s m below meth c F hsz hW ls hl
  exact wMX12_items_0_0 F σ o hf s.heap [] ls hl hW
abbrev rMX12_letter_0 : Room := { frames := 5, cells := 0, slots := 0, locals := 110 }
set_option maxHeartbeats 4000000 in
set_option maxRecDepth 100000 in
theorem wMX12_letter_0_29 {p : Program} {l : Launch} {e : Env} {s : State} {m : MethodId} {args : Array Value} {below : List Frame} {meth : Method} {c : Code} {A : Nat → Prop} {K : KX} (F : fx_ p s m args meth c cX12_letter 3 (some .int) RX12 wsX12_letter) (σ : XS) (o : (Int32 × XS)) (hf : fMX12_letter_0_29 (kn K) σ = some o) (H : Heap) (locs : List Loc) (ls : Array Slot) (hl : lv_has ls 3 []) (hW : gw_ (kD K) vwCl (tyM K) (wM K) A s σ H locs) : W p l e rMX12_letter_0 s m args below meth c H locs 0 0 (MQ below (gw_Qi (kD K) vwCl (tyM K) (wM K) A o) args s rMX12_letter_0.cells rMX12_letter_0.slots A) (F0 m 29 ls []) := by
  have hx := F.1
  have hb := F.2.1
  have hml := F.2.2.2.1
  have hown := F.2.2.2.2.1
  have hts := F.2.2.2.2.2.1
  have hG : ∀ x ∈ gT, x.before args s = true := fun x h => hts x (List.mem_cons_of_mem _ h)
  unfold fMX12_letter_0_29 at hf
  refine lv_iconst (v := (-1 : Int32)) hx hb dX12_letter_29 (by decide) ?_
  refine lv_goto (tgt := 46) hx hb dX12_letter_30 (by decide) ?_
  exact gw_reti F hW hf dX12_letter_46
set_option maxHeartbeats 4000000 in
set_option maxRecDepth 100000 in
theorem wMX12_letter_0_0 {p : Program} {l : Launch} {e : Env} {s : State} {m : MethodId} {args : Array Value} {below : List Frame} {meth : Method} {c : Code} {A : Nat → Prop} {K : KX} (F : fx_ p s m args meth c cX12_letter 3 (some .int) RX12 wsX12_letter) (x1 : Int32) (x2 : Int32) (σ : XS) (o : (Int32 × XS)) (hf : fMX12_letter_0_0 (kn K) x1 x2 σ = some o) (H : Heap) (locs : List Loc) (ls : Array Slot) (hl : lv_has ls 3 [(0, .ref (ka K 0)), (1, .int x1), (2, .int x2)]) (hW : gw_ (kD K) vwCl (tyM K) (wM K) A s σ H locs) : W p l e rMX12_letter_0 s m args below meth c H locs 0 0 (MQ below (gw_Qi (kD K) vwCl (tyM K) (wM K) A o) args s rMX12_letter_0.cells rMX12_letter_0.slots A) (F0 m 0 ls []) := by
  have hx := F.1
  have hb := F.2.1
  have hml := F.2.2.2.1
  have hown := F.2.2.2.2.1
  have hts := F.2.2.2.2.2.1
  have hG : ∀ x ∈ gT, x.before args s = true := fun x h => hts x (List.mem_cons_of_mem _ h)
  unfold fMX12_letter_0_0 at hf
  refine lv_aload_n hx hb dX12_letter_0 rfl (lv_at hl 0 rfl) ?_
  refine lv_iload_n hx hb dX12_letter_1 rfl (lv_at hl 1 rfl) ?_
  obtain ⟨o1, h2, hf⟩ := gw_bind hf
  refine gw_Vz (As := [.int x1]) (mc' := 0) (ms' := 0) F hW (mMX12_no_0 h2) (cwV 1 hts (gT_V q_7_116 q_7_118 qp_58 q_1_12 q_7_119) rfl rfl rfl hdX12_no ⟨Nat.le_of_ble_eq_true rfl, Nat.le_of_ble_eq_true rfl⟩) 0 10 (aM_0 K σ) rfl rfl hl.1 rfl (Nat.le_of_ble_eq_true rfl) dX12_letter_2 ⟨Nat.le_of_ble_eq_true rfl, Nat.le_of_ble_eq_true rfl⟩ rfl rfl (fun H locs z3 hW => ?_)
  refine lv_if_eq (tgt := 10) hx hb dX12_letter_5 (by decide) (fun c4 => ?_) (fun c4 => ?_)
  · replace hf := (if_pos c4).symm.trans hf
    refine lv_iload_n hx hb dX12_letter_10 rfl (lv_at hl 2 rfl) ?_
    refine lv_if_lt (tgt := 29) hx hb dX12_letter_11 (by decide) (fun c5 => ?_) (fun c5 => ?_)
    · replace hf := (if_pos c5).symm.trans hf
      exact wMX12_letter_0_29 F _ _ hf _ _ _ (lv_sub hl [] rfl) hW
    · replace hf := (if_neg c5).symm.trans hf
      refine lv_iload_n hx hb dX12_letter_14 rfl (lv_at hl 2 rfl) ?_
      refine lv_aload_n hx hb dX12_letter_15 rfl (lv_at hl 0 rfl) ?_
      refine lv_aload_n hx hb dX12_letter_16 rfl (lv_at hl 0 rfl) ?_
      refine gw_get (v := .int (o1.2.1 10)) F inc_X12 hW 0 10 28 (aM_0 K o1.2) rfl (by decide) (hG _ q_6_140) (fun _ h9 => h9) rfl dX12_letter_17 ?_
      refine lv_bipush (v := (6 : Int32)) hx hb dX12_letter_20 (by decide) ?_
      refine lv_iadd hx hb dX12_letter_22 ?_
      obtain ⟨o6, h7, hf⟩ := gw_bind hf
      refine gw_Vi (As := [.int ((o1.2.1 10) + (6 : Int32))]) (mc' := 0) (ms' := 0) F hW (mMX12_one_0 h7) (cwV 1 hts (gT_V q_7_107 q_7_109 qp_57 q_1_12 q_7_110) rfl rfl rfl hdX12_one ⟨Nat.le_of_ble_eq_true rfl, Nat.le_of_ble_eq_true rfl⟩) 0 10 (aM_0 K o1.2) rfl rfl hl.1 rfl (Nat.le_of_ble_eq_true rfl) dX12_letter_23 ⟨Nat.le_of_ble_eq_true rfl, Nat.le_of_ble_eq_true rfl⟩ rfl rfl (fun H locs hW => ?_)
      refine lv_icmp_lt (tgt := 33) hx hb dX12_letter_26 (by decide) (fun c9 => ?_) (fun c9 => ?_)
      · replace hf := (if_pos c9).symm.trans hf
        refine lv_aload_n hx hb dX12_letter_33 rfl (lv_at hl 0 rfl) ?_
        refine lv_aload_n hx hb dX12_letter_34 rfl (lv_at hl 0 rfl) ?_
        refine gw_get (v := .int (o6.2.1 10)) F inc_X12 hW 0 10 28 (aM_0 K o6.2) rfl (by decide) (hG _ q_6_140) (fun _ h9 => h9) rfl dX12_letter_35 ?_
        refine lv_bipush (v := (8 : Int32)) hx hb dX12_letter_38 (by decide) ?_
        refine lv_iadd hx hb dX12_letter_40 ?_
        refine lv_iload_n hx hb dX12_letter_41 rfl (lv_at hl 2 rfl) ?_
        refine lv_iadd hx hb dX12_letter_42 ?_
        obtain ⟨o10, h11, hf⟩ := gw_bind hf
        refine gw_Vi (As := [.int (((o6.2.1 10) + (8 : Int32)) + x2)]) (mc' := 0) (ms' := 0) F hW (mMX12_one_0 h11) (cwV 1 hts (gT_V q_7_107 q_7_109 qp_57 q_1_12 q_7_110) rfl rfl rfl hdX12_one ⟨Nat.le_of_ble_eq_true rfl, Nat.le_of_ble_eq_true rfl⟩) 0 10 (aM_0 K o6.2) rfl rfl hl.1 rfl (Nat.le_of_ble_eq_true rfl) dX12_letter_43 ⟨Nat.le_of_ble_eq_true rfl, Nat.le_of_ble_eq_true rfl⟩ rfl rfl (fun H locs hW => ?_)
        exact gw_reti F hW hf dX12_letter_46
      · replace hf := (if_neg c9).symm.trans hf
        exact wMX12_letter_0_29 F _ _ hf _ _ _ (lv_sub hl [] rfl) hW
  · replace hf := (if_neg c4).symm.trans hf
    refine lv_iconst (v := (0 : Int32)) hx hb dX12_letter_8 (by decide) ?_
    exact gw_reti F hW hf dX12_letter_9
set_option maxHeartbeats 4000000 in
set_option maxRecDepth 100000 in
theorem mMX12_letter_0 {l : Launch} {K : KX} {σ : XS} {x1 : Int32} {x2 : Int32} {o : (Int32 × XS)} (hf : fMX12_letter_0 (kn K) x1 x2 σ = some o) : gw_Mi l (kD K) vwCl (tyM K) (wM K) yX12_letter wsX12_letter rMX12_letter_0 [.ref (ka K 0), .int x1, .int x2] σ o := by
  intro sz
  refine gw_body (cc := cX12_letter) (maxL := 3) (yret := some .int) (by decide +kernel) rfl ?_ (Nat.le_of_ble_eq_true rfl)
  intro p e s m below meth c F hsz hW ls hl
  exact wMX12_letter_0_0 F x1 x2 σ o hf s.heap [] ls hl hW
abbrev rMX12_about_0 : Room := { frames := 5, cells := 0, slots := 0, locals := 110 }
set_option maxHeartbeats 4000000 in
set_option maxRecDepth 100000 in
theorem wMX12_about_0_24 {p : Program} {l : Launch} {e : Env} {s : State} {m : MethodId} {args : Array Value} {below : List Frame} {meth : Method} {c : Code} {A : Nat → Prop} {K : KX} (F : fx_ p s m args meth c cX12_about 4 (some .long) RX12 wsX12_about) (x2 : Int32) (y0 : Int32) (σ : XS) (o : (Int64 × XS)) (hf : fMX12_about_0_24 (kn K) x2 y0 σ = some o) (H : Heap) (locs : List Loc) (ls : Array Slot) (hl : lv_has ls 4 [(0, .ref (ka K 0)), (2, .int x2)]) (hW : gw_ (kD K) vwCl (tyM K) (wM K) A s σ H locs) : W p l e rMX12_about_0 s m args below meth c H locs 0 0 (MQ below (gw_Ql (kD K) vwCl (tyM K) (wM K) A o) args s rMX12_about_0.cells rMX12_about_0.slots A) (F0 m 24 ls [.int y0, .ref (ka K 0)]) := by
  have hx := F.1
  have hb := F.2.1
  have hml := F.2.2.2.1
  have hown := F.2.2.2.2.1
  have hts := F.2.2.2.2.2.1
  have hG : ∀ x ∈ gT, x.before args s = true := fun x h => hts x (List.mem_cons_of_mem _ h)
  unfold fMX12_about_0_24 at hf
  refine lv_iconst (v := (3 : Int32)) hx hb dX12_about_24 (by decide) ?_
  obtain ⟨o6, h7, hf⟩ := gw_bind hf
  refine gw_Vz (As := [.int y0, .int (3 : Int32)]) (mc' := 0) (ms' := 0) F hW (mMX12_fails_0 h7) (cwV 2 hts (gT_V q_7_87 q_7_89 qp_52 q_1_12 q_7_90) rfl rfl rfl hdX12_fails ⟨Nat.le_of_ble_eq_true rfl, Nat.le_of_ble_eq_true rfl⟩) 0 10 (aM_0 K σ) rfl rfl hl.1 rfl (Nat.le_of_ble_eq_true rfl) dX12_about_25 ⟨Nat.le_of_ble_eq_true rfl, Nat.le_of_ble_eq_true rfl⟩ rfl rfl (fun H locs z8 hW => ?_)
  refine lv_if_eq (tgt := 33) hx hb dX12_about_28 (by decide) (fun c9 => ?_) (fun c9 => ?_)
  · replace hf := (if_pos c9).symm.trans hf
    refine lv_aload_n hx hb dX12_about_33 rfl (lv_at hl 0 rfl) ?_
    refine lv_aload_n hx hb dX12_about_34 rfl (lv_at hl 0 rfl) ?_
    refine gw_get (v := .int (o6.2.1 10)) F inc_X12 hW 0 10 28 (aM_0 K o6.2) rfl (by decide) (hG _ q_6_140) (fun _ h9 => h9) rfl dX12_about_35 ?_
    obtain ⟨o10, h11, hf⟩ := gw_bind hf
    refine gw_Vi (As := [.int (o6.2.1 10)]) (mc' := 0) (ms' := 0) F hW (mMX12_four_0 h11) (cwV 1 hts (gT_V q_7_99 q_7_101 qp_55 q_1_12 q_7_102) rfl rfl rfl hdX12_four ⟨Nat.le_of_ble_eq_true rfl, Nat.le_of_ble_eq_true rfl⟩) 0 10 (aM_0 K o6.2) rfl rfl hl.1 rfl (Nat.le_of_ble_eq_true rfl) dX12_about_38 ⟨Nat.le_of_ble_eq_true rfl, Nat.le_of_ble_eq_true rfl⟩ rfl rfl (fun H locs hW => ?_)
    refine lv_istore_n (lv' := [(3, .int o10.1), (0, .ref (ka K 0)), (2, .int x2)]) hx hb dX12_about_41 rfl hl (by decide) rfl (fun ls hl => ?_)
    refine lv_iload_n hx hb dX12_about_42 rfl (lv_at hl 2 rfl) ?_
    rcases Decidable.em (x2 = (0 : Int32)) with c13 | c13
    · replace hf := (if_pos c13).symm.trans hf
      refine lv_tableIn (tgt := 72) hx hb dX12_about_43 (by rw [c13]; decide) (by rw [c13]; decide) (by rw [c13]; rfl) (by decide) ?_
      refine lv_iload_n hx hb dX12_about_72 rfl (lv_at hl 0 rfl) ?_
      refine lv_i2l (v := o10.1.toInt64) hx hb dX12_about_73 rfl ?_
      exact gw_retl F hW hf dX12_about_74
    replace hf := (if_neg c13).symm.trans hf
    rcases Decidable.em (x2 = (1 : Int32)) with c14 | c14
    · replace hf := (if_pos c14).symm.trans hf
      refine lv_tableIn (tgt := 75) hx hb dX12_about_43 (by rw [c14]; decide) (by rw [c14]; decide) (by rw [c14]; rfl) (by decide) ?_
      refine lv_aload_n hx hb dX12_about_75 rfl (lv_at hl 1 rfl) ?_
      refine gw_get (v := .ref (ka K 7)) F inc_X12 hW 0 10 16 (aM_0 K o10.2) rfl (by decide) (hG _ q_6_128) (fun _ h9 => h9) rfl dX12_about_76 ?_
      refine lv_iload_n hx hb dX12_about_79 rfl (lv_at hl 0 rfl) ?_
      rcases Decidable.em (o10.1 < 0 ∨ 2100 ≤ o10.1.toNatClampNeg) with c15 | c15
      · replace hf := (if_pos c15).symm.trans hf
        exact absurd hf (by simp)
      · replace hf := (if_neg c15).symm.trans hf
        refine gw_iald F hW 7 6 (aM_7 K o10.2) rfl c15 dX12_about_80 ?_
        refine lv_iconst (v := (2 : Int32)) hx hb dX12_about_81 (by decide) ?_
        refine lv_icmp_ne (tgt := 89) hx hb dX12_about_82 (by decide) (fun c16 => ?_) (fun c16 => ?_)
        · replace hf := (if_neg c16).symm.trans hf
          refine lv_lconst (v := (0 : Int64)) hx hb dX12_about_89 (by decide) ?_
          exact gw_retl F hW hf dX12_about_90
        · replace hf := (if_pos c16).symm.trans hf
          refine lv_lconst (v := (1 : Int64)) hx hb dX12_about_85 (by decide) ?_
          refine lv_goto (tgt := 90) hx hb dX12_about_86 (by decide) ?_
          exact gw_retl F hW hf dX12_about_90
    replace hf := (if_neg c14).symm.trans hf
    rcases Decidable.em (x2 = (2 : Int32)) with c17 | c17
    · replace hf := (if_pos c17).symm.trans hf
      refine lv_tableIn (tgt := 91) hx hb dX12_about_43 (by rw [c17]; decide) (by rw [c17]; decide) (by rw [c17]; rfl) (by decide) ?_
      refine lv_aload_n hx hb dX12_about_91 rfl (lv_at hl 1 rfl) ?_
      refine gw_get (v := .ref (ka K 8)) F inc_X12 hW 0 10 17 (aM_0 K o10.2) rfl (by decide) (hG _ q_6_129) (fun _ h9 => h9) rfl dX12_about_92 ?_
      refine lv_iload_n hx hb dX12_about_95 rfl (lv_at hl 0 rfl) ?_
      rcases Decidable.em (o10.1 < 0 ∨ 2100 ≤ o10.1.toNatClampNeg) with c18 | c18
      · replace hf := (if_pos c18).symm.trans hf
        exact absurd hf (by simp)
      · replace hf := (if_neg c18).symm.trans hf
        refine gw_iald F hW 8 7 (aM_8 K o10.2) rfl c18 dX12_about_96 ?_
        refine lv_i2l (v := (o10.2.2.1 7 o10.1.toNatClampNeg).toInt64) hx hb dX12_about_97 rfl ?_
        exact gw_retl F hW hf dX12_about_98
    replace hf := (if_neg c17).symm.trans hf
    rcases Decidable.em (x2 = (3 : Int32)) with c19 | c19
    · replace hf := (if_pos c19).symm.trans hf
      refine lv_tableIn (tgt := 99) hx hb dX12_about_43 (by rw [c19]; decide) (by rw [c19]; decide) (by rw [c19]; rfl) (by decide) ?_
      refine lv_aload_n hx hb dX12_about_99 rfl (lv_at hl 1 rfl) ?_
      refine gw_get (v := .ref (ka K 9)) F inc_X12 hW 0 10 18 (aM_0 K o10.2) rfl (by decide) (hG _ q_6_130) (fun _ h9 => h9) rfl dX12_about_100 ?_
      refine lv_iload_n hx hb dX12_about_103 rfl (lv_at hl 0 rfl) ?_
      rcases Decidable.em (o10.1 < 0 ∨ 2100 ≤ o10.1.toNatClampNeg) with c20 | c20
      · replace hf := (if_pos c20).symm.trans hf
        exact absurd hf (by simp)
      · replace hf := (if_neg c20).symm.trans hf
        refine gw_iald F hW 9 8 (aM_9 K o10.2) rfl c20 dX12_about_104 ?_
        refine lv_i2l (v := (o10.2.2.1 8 o10.1.toNatClampNeg).toInt64) hx hb dX12_about_105 rfl ?_
        exact gw_retl F hW hf dX12_about_106
    replace hf := (if_neg c19).symm.trans hf
    refine lv_tableOut (tgt := 107) hx hb dX12_about_43 (gw_out0_3 c13 c14 c17 c19) (by decide) ?_
    refine lv_aload_n hx hb dX12_about_107 rfl (lv_at hl 1 rfl) ?_
    refine gw_get (v := .ref (ka K 17)) F inc_X12 hW 0 10 26 (aM_0 K o10.2) rfl (by decide) (hG _ q_6_138) (fun _ h9 => h9) rfl dX12_about_108 ?_
    refine lv_iconst (v := (3 : Int32)) hx hb dX12_about_111 (by decide) ?_
    refine lv_iload_n hx hb dX12_about_112 rfl (lv_at hl 0 rfl) ?_
    refine lv_imul hx hb dX12_about_113 ?_
    refine lv_iload_n hx hb dX12_about_114 rfl (lv_at hl 2 rfl) ?_
    refine lv_iadd hx hb dX12_about_115 ?_
    refine lv_iconst (v := (4 : Int32)) hx hb dX12_about_116 (by decide) ?_
    refine lv_isub hx hb dX12_about_117 ?_
    rcases Decidable.em (((((3 : Int32) * o10.1) + x2) - (4 : Int32)) < 0 ∨ 6300 ≤ ((((3 : Int32) * o10.1) + x2) - (4 : Int32)).toNatClampNeg) with c21 | c21
    · replace hf := (if_pos c21).symm.trans hf
      exact absurd hf (by simp)
    · replace hf := (if_neg c21).symm.trans hf
      refine gw_lald F hW 17 16 (aM_17 K o10.2) rfl c21 dX12_about_118 ?_
      exact gw_retl F hW hf dX12_about_119
  · replace hf := (if_neg c9).symm.trans hf
    refine lv_lconst (v := (0 : Int64)) hx hb dX12_about_31 (by decide) ?_
    exact gw_retl F hW hf dX12_about_32
set_option maxHeartbeats 4000000 in
set_option maxRecDepth 100000 in
theorem wMX12_about_0_19 {p : Program} {l : Launch} {e : Env} {s : State} {m : MethodId} {args : Array Value} {below : List Frame} {meth : Method} {c : Code} {A : Nat → Prop} {K : KX} (F : fx_ p s m args meth c cX12_about 4 (some .long) RX12 wsX12_about) (x2 : Int32) (σ : XS) (o : (Int64 × XS)) (hf : fMX12_about_0_19 (kn K) x2 σ = some o) (H : Heap) (locs : List Loc) (ls : Array Slot) (hl : lv_has ls 4 [(0, .ref (ka K 0)), (2, .int x2)]) (hW : gw_ (kD K) vwCl (tyM K) (wM K) A s σ H locs) : W p l e rMX12_about_0 s m args below meth c H locs 0 0 (MQ below (gw_Ql (kD K) vwCl (tyM K) (wM K) A o) args s rMX12_about_0.cells rMX12_about_0.slots A) (F0 m 19 ls [.ref (ka K 0)]) := by
  have hx := F.1
  have hb := F.2.1
  have hml := F.2.2.2.1
  have hown := F.2.2.2.2.1
  have hts := F.2.2.2.2.2.1
  have hG : ∀ x ∈ gT, x.before args s = true := fun x h => hts x (List.mem_cons_of_mem _ h)
  unfold fMX12_about_0_19 at hf
  refine lv_iconst (v := (1 : Int32)) hx hb dX12_about_19 (by decide) ?_
  refine lv_goto (tgt := 24) hx hb dX12_about_20 (by decide) ?_
  exact wMX12_about_0_24 F x2 (1 : Int32) _ _ hf _ _ _ (lv_sub hl [0, 1] rfl) hW
set_option maxHeartbeats 4000000 in
set_option maxRecDepth 100000 in
theorem wMX12_about_0_0 {p : Program} {l : Launch} {e : Env} {s : State} {m : MethodId} {args : Array Value} {below : List Frame} {meth : Method} {c : Code} {A : Nat → Prop} {K : KX} (F : fx_ p s m args meth c cX12_about 4 (some .long) RX12 wsX12_about) (x1 : Int32) (x2 : Int32) (σ : XS) (o : (Int64 × XS)) (hf : fMX12_about_0_0 (kn K) x1 x2 σ = some o) (H : Heap) (locs : List Loc) (ls : Array Slot) (hl : lv_has ls 4 [(0, .ref (ka K 0)), (1, .int x1), (2, .int x2)]) (hW : gw_ (kD K) vwCl (tyM K) (wM K) A s σ H locs) : W p l e rMX12_about_0 s m args below meth c H locs 0 0 (MQ below (gw_Ql (kD K) vwCl (tyM K) (wM K) A o) args s rMX12_about_0.cells rMX12_about_0.slots A) (F0 m 0 ls []) := by
  have hx := F.1
  have hb := F.2.1
  have hml := F.2.2.2.1
  have hown := F.2.2.2.2.1
  have hts := F.2.2.2.2.2.1
  have hG : ∀ x ∈ gT, x.before args s = true := fun x h => hts x (List.mem_cons_of_mem _ h)
  unfold fMX12_about_0_0 at hf
  refine lv_aload_n hx hb dX12_about_0 rfl (lv_at hl 0 rfl) ?_
  refine lv_iload_n hx hb dX12_about_1 rfl (lv_at hl 1 rfl) ?_
  obtain ⟨o1, h2, hf⟩ := gw_bind hf
  refine gw_Vz (As := [.int x1]) (mc' := 0) (ms' := 0) F hW (mMX12_no_0 h2) (cwV 1 hts (gT_V q_7_116 q_7_118 qp_58 q_1_12 q_7_119) rfl rfl rfl hdX12_no ⟨Nat.le_of_ble_eq_true rfl, Nat.le_of_ble_eq_true rfl⟩) 0 10 (aM_0 K σ) rfl rfl hl.1 rfl (Nat.le_of_ble_eq_true rfl) dX12_about_2 ⟨Nat.le_of_ble_eq_true rfl, Nat.le_of_ble_eq_true rfl⟩ rfl rfl (fun H locs z3 hW => ?_)
  refine lv_if_ne (tgt := 31) hx hb dX12_about_5 (by decide) (fun c4 => ?_) (fun c4 => ?_)
  · replace hf := (if_neg c4).symm.trans hf
    refine lv_lconst (v := (0 : Int64)) hx hb dX12_about_31 (by decide) ?_
    exact gw_retl F hW hf dX12_about_32
  · replace hf := (if_pos c4).symm.trans hf
    refine lv_aload_n hx hb dX12_about_8 rfl (lv_at hl 0 rfl) ?_
    refine lv_iload_n hx hb dX12_about_9 rfl (lv_at hl 2 rfl) ?_
    refine lv_if_lt (tgt := 19) hx hb dX12_about_10 (by decide) (fun c5 => ?_) (fun c5 => ?_)
    · replace hf := (if_pos c5).symm.trans hf
      exact wMX12_about_0_19 F x2 _ _ hf _ _ _ (lv_sub hl [0, 2] rfl) hW
    · replace hf := (if_neg c5).symm.trans hf
      refine lv_iload_n hx hb dX12_about_13 rfl (lv_at hl 2 rfl) ?_
      refine lv_bipush (v := (6 : Int32)) hx hb dX12_about_14 (by decide) ?_
      refine lv_icmp_le (tgt := 23) hx hb dX12_about_16 (by decide) (fun c22 => ?_) (fun c22 => ?_)
      · replace hf := (if_pos c22).symm.trans hf
        refine lv_iconst (v := (0 : Int32)) hx hb dX12_about_23 (by decide) ?_
        exact wMX12_about_0_24 F x2 (0 : Int32) _ _ hf _ _ _ (lv_sub hl [0, 2] rfl) hW
      · replace hf := (if_neg c22).symm.trans hf
        exact wMX12_about_0_19 F x2 _ _ hf _ _ _ (lv_sub hl [0, 2] rfl) hW
set_option maxHeartbeats 4000000 in
set_option maxRecDepth 100000 in
theorem mMX12_about_0 {l : Launch} {K : KX} {σ : XS} {x1 : Int32} {x2 : Int32} {o : (Int64 × XS)} (hf : fMX12_about_0 (kn K) x1 x2 σ = some o) : gw_Ml l (kD K) vwCl (tyM K) (wM K) yX12_about wsX12_about rMX12_about_0 [.ref (ka K 0), .int x1, .int x2] σ o := by
  intro sz
  refine gw_body (cc := cX12_about) (maxL := 4) (yret := some .long) (by decide +kernel) rfl ?_ (Nat.le_of_ble_eq_true rfl)
  intro p e s m below meth c F hsz hW ls hl
  exact wMX12_about_0_0 F x1 x2 σ o hf s.heap [] ls hl hW
abbrev rMX12_content_0 : Room := { frames := 5, cells := 0, slots := 0, locals := 110 }
set_option maxHeartbeats 4000000 in
set_option maxRecDepth 100000 in
theorem wMX12_content_0_43 {p : Program} {l : Launch} {e : Env} {s : State} {m : MethodId} {args : Array Value} {below : List Frame} {meth : Method} {c : Code} {A : Nat → Prop} {K : KX} (F : fx_ p s m args meth c cX12_content 4 (some .int) RX12 wsX12_content) (σ : XS) (o : (Int32 × XS)) (hf : fMX12_content_0_43 (kn K) σ = some o) (H : Heap) (locs : List Loc) (ls : Array Slot) (hl : lv_has ls 4 []) (hW : gw_ (kD K) vwCl (tyM K) (wM K) A s σ H locs) : W p l e rMX12_content_0 s m args below meth c H locs 0 0 (MQ below (gw_Qi (kD K) vwCl (tyM K) (wM K) A o) args s rMX12_content_0.cells rMX12_content_0.slots A) (F0 m 43 ls []) := by
  have hx := F.1
  have hb := F.2.1
  have hml := F.2.2.2.1
  have hown := F.2.2.2.2.1
  have hts := F.2.2.2.2.2.1
  have hG : ∀ x ∈ gT, x.before args s = true := fun x h => hts x (List.mem_cons_of_mem _ h)
  unfold fMX12_content_0_43 at hf
  refine lv_iconst (v := (-1 : Int32)) hx hb dX12_content_43 (by decide) ?_
  refine lv_goto (tgt := 71) hx hb dX12_content_44 (by decide) ?_
  exact gw_reti F hW hf dX12_content_71
set_option maxHeartbeats 4000000 in
set_option maxRecDepth 100000 in
theorem wMX12_content_0_0 {p : Program} {l : Launch} {e : Env} {s : State} {m : MethodId} {args : Array Value} {below : List Frame} {meth : Method} {c : Code} {A : Nat → Prop} {K : KX} (F : fx_ p s m args meth c cX12_content 4 (some .int) RX12 wsX12_content) (x1 : Int32) (x2 : Int32) (σ : XS) (o : (Int32 × XS)) (hf : fMX12_content_0_0 (kn K) x1 x2 σ = some o) (H : Heap) (locs : List Loc) (ls : Array Slot) (hl : lv_has ls 4 [(0, .ref (ka K 0)), (1, .int x1), (2, .int x2)]) (hW : gw_ (kD K) vwCl (tyM K) (wM K) A s σ H locs) : W p l e rMX12_content_0 s m args below meth c H locs 0 0 (MQ below (gw_Qi (kD K) vwCl (tyM K) (wM K) A o) args s rMX12_content_0.cells rMX12_content_0.slots A) (F0 m 0 ls []) := by
  have hx := F.1
  have hb := F.2.1
  have hml := F.2.2.2.1
  have hown := F.2.2.2.2.1
  have hts := F.2.2.2.2.2.1
  have hG : ∀ x ∈ gT, x.before args s = true := fun x h => hts x (List.mem_cons_of_mem _ h)
  unfold fMX12_content_0_0 at hf
  refine lv_aload_n hx hb dX12_content_0 rfl (lv_at hl 0 rfl) ?_
  refine lv_iload_n hx hb dX12_content_1 rfl (lv_at hl 1 rfl) ?_
  obtain ⟨o1, h2, hf⟩ := gw_bind hf
  refine gw_Vz (As := [.int x1]) (mc' := 0) (ms' := 0) F hW (mMX12_no_0 h2) (cwV 1 hts (gT_V q_7_116 q_7_118 qp_58 q_1_12 q_7_119) rfl rfl rfl hdX12_no ⟨Nat.le_of_ble_eq_true rfl, Nat.le_of_ble_eq_true rfl⟩) 0 10 (aM_0 K σ) rfl rfl hl.1 rfl (Nat.le_of_ble_eq_true rfl) dX12_content_2 ⟨Nat.le_of_ble_eq_true rfl, Nat.le_of_ble_eq_true rfl⟩ rfl rfl (fun H locs z3 hW => ?_)
  refine lv_if_eq (tgt := 10) hx hb dX12_content_5 (by decide) (fun c4 => ?_) (fun c4 => ?_)
  · replace hf := (if_pos c4).symm.trans hf
    refine lv_aload_n hx hb dX12_content_10 rfl (lv_at hl 0 rfl) ?_
    refine lv_aload_n hx hb dX12_content_11 rfl (lv_at hl 0 rfl) ?_
    refine gw_get (v := .int (o1.2.1 10)) F inc_X12 hW 0 10 28 (aM_0 K o1.2) rfl (by decide) (hG _ q_6_140) (fun _ h9 => h9) rfl dX12_content_12 ?_
    obtain ⟨o5, h6, hf⟩ := gw_bind hf
    refine gw_Vi (As := [.int (o1.2.1 10)]) (mc' := 0) (ms' := 0) F hW (mMX12_four_0 h6) (cwV 1 hts (gT_V q_7_99 q_7_101 qp_55 q_1_12 q_7_102) rfl rfl rfl hdX12_four ⟨Nat.le_of_ble_eq_true rfl, Nat.le_of_ble_eq_true rfl⟩) 0 10 (aM_0 K o1.2) rfl rfl hl.1 rfl (Nat.le_of_ble_eq_true rfl) dX12_content_15 ⟨Nat.le_of_ble_eq_true rfl, Nat.le_of_ble_eq_true rfl⟩ rfl rfl (fun H locs hW => ?_)
    refine lv_istore_n (lv' := [(3, .int o5.1), (0, .ref (ka K 0)), (1, .int x1), (2, .int x2)]) hx hb dX12_content_18 rfl hl (by decide) rfl (fun ls hl => ?_)
    refine lv_aload_n hx hb dX12_content_19 rfl (lv_at hl 1 rfl) ?_
    refine gw_get (v := .ref (ka K 7)) F inc_X12 hW 0 10 16 (aM_0 K o5.2) rfl (by decide) (hG _ q_6_128) (fun _ h9 => h9) rfl dX12_content_20 ?_
    refine lv_iload_n hx hb dX12_content_23 rfl (lv_at hl 0 rfl) ?_
    rcases Decidable.em (o5.1 < 0 ∨ 2100 ≤ o5.1.toNatClampNeg) with c8 | c8
    · replace hf := (if_pos c8).symm.trans hf
      exact absurd hf (by simp)
    · replace hf := (if_neg c8).symm.trans hf
      refine gw_iald F hW 7 6 (aM_7 K o5.2) rfl c8 dX12_content_24 ?_
      refine lv_iconst (v := (2 : Int32)) hx hb dX12_content_25 (by decide) ?_
      refine lv_icmp_eq (tgt := 43) hx hb dX12_content_26 (by decide) (fun c9 => ?_) (fun c9 => ?_)
      · replace hf := (if_pos c9).symm.trans hf
        exact wMX12_content_0_43 F _ _ hf _ _ _ (lv_sub hl [] rfl) hW
      · replace hf := (if_neg c9).symm.trans hf
        refine lv_iload_n hx hb dX12_content_29 rfl (lv_at hl 3 rfl) ?_
        refine lv_if_lt (tgt := 43) hx hb dX12_content_30 (by decide) (fun c10 => ?_) (fun c10 => ?_)
        · replace hf := (if_pos c10).symm.trans hf
          exact wMX12_content_0_43 F _ _ hf _ _ _ (lv_sub hl [] rfl) hW
        · replace hf := (if_neg c10).symm.trans hf
          refine lv_iload_n hx hb dX12_content_33 rfl (lv_at hl 3 rfl) ?_
          refine lv_aload_n hx hb dX12_content_34 rfl (lv_at hl 1 rfl) ?_
          refine gw_get (v := .ref (ka K 8)) F inc_X12 hW 0 10 17 (aM_0 K o5.2) rfl (by decide) (hG _ q_6_129) (fun _ h9 => h9) rfl dX12_content_35 ?_
          refine lv_iload_n hx hb dX12_content_38 rfl (lv_at hl 0 rfl) ?_
          rcases Decidable.em (o5.1 < 0 ∨ 2100 ≤ o5.1.toNatClampNeg) with c11 | c11
          · replace hf := (if_pos c11).symm.trans hf
            exact absurd hf (by simp)
          · replace hf := (if_neg c11).symm.trans hf
            refine gw_iald F hW 8 7 (aM_8 K o5.2) rfl c11 dX12_content_39 ?_
            refine lv_icmp_lt (tgt := 47) hx hb dX12_content_40 (by decide) (fun c12 => ?_) (fun c12 => ?_)
            · replace hf := (if_pos c12).symm.trans hf
              refine lv_aload_n hx hb dX12_content_47 rfl (lv_at hl 1 rfl) ?_
              refine lv_sipush (v := (1024 : Int32)) hx hb dX12_content_48 (by decide) ?_
              refine lv_aload_n hx hb dX12_content_51 rfl (lv_at hl 1 rfl) ?_
              refine lv_iload_n hx hb dX12_content_52 rfl (lv_at hl 0 rfl) ?_
              refine lv_iload_n hx hb dX12_content_53 rfl (lv_at hl 3 rfl) ?_
              refine lv_sipush (v := (1024 : Int32)) hx hb dX12_content_54 (by decide) ?_
              refine lv_idiv hx hb dX12_content_57 (by decide) ?_
              obtain ⟨o13, h14, hf⟩ := gw_bind hf
              refine gw_Vi (As := [.int o5.1, .int (x2 / (1024 : Int32))]) (mc' := 0) (ms' := 0) F hW (mMX12_blockOf_0 h14) (cwV 2 hts (gT_V q_7_128 q_7_130 qp_59 q_1_12 q_7_131) rfl rfl rfl hdX12_blockOf ⟨Nat.le_of_ble_eq_true rfl, Nat.le_of_ble_eq_true rfl⟩) 0 10 (aM_0 K o5.2) rfl rfl hl.1 rfl (Nat.le_of_ble_eq_true rfl) dX12_content_58 ⟨Nat.le_of_ble_eq_true rfl, Nat.le_of_ble_eq_true rfl⟩ rfl rfl (fun H locs hW => ?_)
              refine lv_imul hx hb dX12_content_61 ?_
              refine lv_iload_n hx hb dX12_content_62 rfl (lv_at hl 3 rfl) ?_
              refine lv_sipush (v := (1024 : Int32)) hx hb dX12_content_63 (by decide) ?_
              refine lv_irem hx hb dX12_content_66 (by decide) ?_
              refine lv_iadd hx hb dX12_content_67 ?_
              obtain ⟨o16, h17, hf⟩ := gw_bind hf
              refine gw_Vi (As := [.int (((1024 : Int32) * o13.1) + (x2 - x2 / (1024 : Int32) * (1024 : Int32)))]) (mc' := 0) (ms' := 0) F hW (mMX12_one_0 h17) (cwV 1 hts (gT_V q_7_107 q_7_109 qp_57 q_1_12 q_7_110) rfl rfl rfl hdX12_one ⟨Nat.le_of_ble_eq_true rfl, Nat.le_of_ble_eq_true rfl⟩) 0 10 (aM_0 K o13.2) rfl rfl hl.1 rfl (Nat.le_of_ble_eq_true rfl) dX12_content_68 ⟨Nat.le_of_ble_eq_true rfl, Nat.le_of_ble_eq_true rfl⟩ rfl rfl (fun H locs hW => ?_)
              exact gw_reti F hW hf dX12_content_71
            · replace hf := (if_neg c12).symm.trans hf
              exact wMX12_content_0_43 F _ _ hf _ _ _ (lv_sub hl [] rfl) hW
  · replace hf := (if_neg c4).symm.trans hf
    refine lv_iconst (v := (0 : Int32)) hx hb dX12_content_8 (by decide) ?_
    exact gw_reti F hW hf dX12_content_9
set_option maxHeartbeats 4000000 in
set_option maxRecDepth 100000 in
theorem mMX12_content_0 {l : Launch} {K : KX} {σ : XS} {x1 : Int32} {x2 : Int32} {o : (Int32 × XS)} (hf : fMX12_content_0 (kn K) x1 x2 σ = some o) : gw_Mi l (kD K) vwCl (tyM K) (wM K) yX12_content wsX12_content rMX12_content_0 [.ref (ka K 0), .int x1, .int x2] σ o := by
  intro sz
  refine gw_body (cc := cX12_content) (maxL := 4) (yret := some .int) (by decide +kernel) rfl ?_ (Nat.le_of_ble_eq_true rfl)
  intro p e s m below meth c F hsz hW ls hl
  exact wMX12_content_0_0 F x1 x2 σ o hf s.heap [] ls hl hW
abbrev rMX12_enter_0 : Room := { frames := 5, cells := 0, slots := 0, locals := 111 }
set_option maxHeartbeats 4000000 in
set_option maxRecDepth 100000 in
theorem wMX12_enter_0_31 {p : Program} {l : Launch} {e : Env} {s : State} {m : MethodId} {args : Array Value} {below : List Frame} {meth : Method} {c : Code} {A : Nat → Prop} {K : KX} (F : fx_ p s m args meth c cX12_enter 2 (some .int) RX12 wsX12_enter) (y0 : Int32) (σ : XS) (o : (Int32 × XS)) (hf : fMX12_enter_0_31 (kn K) y0 σ = some o) (H : Heap) (locs : List Loc) (ls : Array Slot) (hl : lv_has ls 2 [(0, .ref (ka K 0))]) (hW : gw_ (kD K) vwCl (tyM K) (wM K) A s σ H locs) : W p l e rMX12_enter_0 s m args below meth c H locs 0 0 (MQ below (gw_Qi (kD K) vwCl (tyM K) (wM K) A o) args s rMX12_enter_0.cells rMX12_enter_0.slots A) (F0 m 31 ls [.int y0, .ref (ka K 0)]) := by
  have hx := F.1
  have hb := F.2.1
  have hml := F.2.2.2.1
  have hown := F.2.2.2.2.1
  have hts := F.2.2.2.2.2.1
  have hG : ∀ x ∈ gT, x.before args s = true := fun x h => hts x (List.mem_cons_of_mem _ h)
  unfold fMX12_enter_0_31 at hf
  refine lv_iconst (v := (3 : Int32)) hx hb dX12_enter_31 (by decide) ?_
  obtain ⟨o10, h11, hf⟩ := gw_bind hf
  refine gw_Vz (As := [.int y0, .int (3 : Int32)]) (mc' := 0) (ms' := 0) F hW (mMX12_fails_0 h11) (cwV 2 hts (gT_V q_7_87 q_7_89 qp_52 q_1_12 q_7_90) rfl rfl rfl hdX12_fails ⟨Nat.le_of_ble_eq_true rfl, Nat.le_of_ble_eq_true rfl⟩) 0 10 (aM_0 K σ) rfl rfl hl.1 rfl (Nat.le_of_ble_eq_true rfl) dX12_enter_32 ⟨Nat.le_of_ble_eq_true rfl, Nat.le_of_ble_eq_true rfl⟩ rfl rfl (fun H locs z12 hW => ?_)
  refine lv_if_eq (tgt := 40) hx hb dX12_enter_35 (by decide) (fun c13 => ?_) (fun c13 => ?_)
  · replace hf := (if_pos c13).symm.trans hf
    refine lv_aload_n hx hb dX12_enter_40 rfl (lv_at hl 0 rfl) ?_
    refine lv_aload_n hx hb dX12_enter_41 rfl (lv_at hl 0 rfl) ?_
    refine lv_aload_n hx hb dX12_enter_42 rfl (lv_at hl 0 rfl) ?_
    refine gw_get (v := .int (o10.2.1 10)) F inc_X12 hW 0 10 28 (aM_0 K o10.2) rfl (by decide) (hG _ q_6_140) (fun _ h9 => h9) rfl dX12_enter_43 ?_
    obtain ⟨o14, h15, hf⟩ := gw_bind hf
    refine gw_Vi (As := [.int (o10.2.1 10)]) (mc' := 0) (ms' := 0) F hW (mMX12_four_0 h15) (cwV 1 hts (gT_V q_7_99 q_7_101 qp_55 q_1_12 q_7_102) rfl rfl rfl hdX12_four ⟨Nat.le_of_ble_eq_true rfl, Nat.le_of_ble_eq_true rfl⟩) 0 10 (aM_0 K o10.2) rfl rfl hl.1 rfl (Nat.le_of_ble_eq_true rfl) dX12_enter_46 ⟨Nat.le_of_ble_eq_true rfl, Nat.le_of_ble_eq_true rfl⟩ rfl rfl (fun H locs hW => ?_)
    refine gw_put (σ' := (stS o14.2 9 o14.1)) (ty := .int) F inc_X12 tyX12 tyX12_ok nmX12 hW 0 10 27 (aM_0 K o14.2) rfl (by decide) (hG _ q_6_139) (fun _ h9 => h9) rfl (by decide +kernel) rfl rfl (Nat.le_of_ble_eq_true rfl) dX12_enter_49 (sSM_9 _ _ _) (fun H locs hW => ?_)
    refine lv_aload_n hx hb dX12_enter_52 rfl (lv_at hl 0 rfl) ?_
    refine lv_aload_n hx hb dX12_enter_53 rfl (lv_at hl 0 rfl) ?_
    refine gw_get (v := .int o14.1) F inc_X12 hW 0 10 27 (aM_0 K (stS o14.2 9 o14.1)) rfl (by decide) (hG _ q_6_139) (fun _ h9 => h9) rfl dX12_enter_54 ?_
    obtain ⟨o17, h18, hf⟩ := gw_bind hf
    refine gw_Vi (As := [.int o14.1]) (mc' := 0) (ms' := 0) F hW (mMX12_count_0 h18) (cwV 1 hts (gT_V q_7_91 q_7_93 qp_53 q_1_12 q_7_94) rfl rfl rfl hdX12_count ⟨Nat.le_of_ble_eq_true rfl, Nat.le_of_ble_eq_true rfl⟩) 0 10 (aM_0 K (stS o14.2 9 o14.1)) rfl rfl hl.1 rfl (Nat.le_of_ble_eq_true rfl) dX12_enter_57 ⟨Nat.le_of_ble_eq_true rfl, Nat.le_of_ble_eq_true rfl⟩ rfl rfl (fun H locs hW => ?_)
    exact gw_reti F hW hf dX12_enter_60
  · replace hf := (if_neg c13).symm.trans hf
    refine lv_iconst (v := (0 : Int32)) hx hb dX12_enter_38 (by decide) ?_
    exact gw_reti F hW hf dX12_enter_39
set_option maxHeartbeats 4000000 in
set_option maxRecDepth 100000 in
theorem wMX12_enter_0_0 {p : Program} {l : Launch} {e : Env} {s : State} {m : MethodId} {args : Array Value} {below : List Frame} {meth : Method} {c : Code} {A : Nat → Prop} {K : KX} (F : fx_ p s m args meth c cX12_enter 2 (some .int) RX12 wsX12_enter) (x1 : Int32) (σ : XS) (o : (Int32 × XS)) (hf : fMX12_enter_0_0 (kn K) x1 σ = some o) (H : Heap) (locs : List Loc) (ls : Array Slot) (hl : lv_has ls 2 [(0, .ref (ka K 0)), (1, .int x1)]) (hW : gw_ (kD K) vwCl (tyM K) (wM K) A s σ H locs) : W p l e rMX12_enter_0 s m args below meth c H locs 0 0 (MQ below (gw_Qi (kD K) vwCl (tyM K) (wM K) A o) args s rMX12_enter_0.cells rMX12_enter_0.slots A) (F0 m 0 ls []) := by
  have hx := F.1
  have hb := F.2.1
  have hml := F.2.2.2.1
  have hown := F.2.2.2.2.1
  have hts := F.2.2.2.2.2.1
  have hG : ∀ x ∈ gT, x.before args s = true := fun x h => hts x (List.mem_cons_of_mem _ h)
  unfold fMX12_enter_0_0 at hf
  refine lv_aload_n hx hb dX12_enter_0 rfl (lv_at hl 0 rfl) ?_
  refine lv_iload_n hx hb dX12_enter_1 rfl (lv_at hl 1 rfl) ?_
  obtain ⟨o1, h2, hf⟩ := gw_bind hf
  refine gw_Vz (As := [.int x1]) (mc' := 0) (ms' := 0) F hW (mMX12_no_0 h2) (cwV 1 hts (gT_V q_7_116 q_7_118 qp_58 q_1_12 q_7_119) rfl rfl rfl hdX12_no ⟨Nat.le_of_ble_eq_true rfl, Nat.le_of_ble_eq_true rfl⟩) 0 10 (aM_0 K σ) rfl rfl hl.1 rfl (Nat.le_of_ble_eq_true rfl) dX12_enter_2 ⟨Nat.le_of_ble_eq_true rfl, Nat.le_of_ble_eq_true rfl⟩ rfl rfl (fun H locs z3 hW => ?_)
  refine lv_if_ne (tgt := 38) hx hb dX12_enter_5 (by decide) (fun c4 => ?_) (fun c4 => ?_)
  · replace hf := (if_neg c4).symm.trans hf
    refine lv_iconst (v := (0 : Int32)) hx hb dX12_enter_38 (by decide) ?_
    exact gw_reti F hW hf dX12_enter_39
  · replace hf := (if_pos c4).symm.trans hf
    refine lv_aload_n hx hb dX12_enter_8 rfl (lv_at hl 0 rfl) ?_
    refine lv_aload_n hx hb dX12_enter_9 rfl (lv_at hl 0 rfl) ?_
    refine gw_get (v := .ref (ka K 7)) F inc_X12 hW 0 10 16 (aM_0 K o1.2) rfl (by decide) (hG _ q_6_128) (fun _ h9 => h9) rfl dX12_enter_10 ?_
    refine lv_aload_n hx hb dX12_enter_13 rfl (lv_at hl 0 rfl) ?_
    refine lv_aload_n hx hb dX12_enter_14 rfl (lv_at hl 0 rfl) ?_
    refine gw_get (v := .int (o1.2.1 10)) F inc_X12 hW 0 10 28 (aM_0 K o1.2) rfl (by decide) (hG _ q_6_140) (fun _ h9 => h9) rfl dX12_enter_15 ?_
    obtain ⟨o5, h6, hf⟩ := gw_bind hf
    refine gw_Vi (As := [.int (o1.2.1 10)]) (mc' := 0) (ms' := 0) F hW (mMX12_four_0 h6) (cwV 1 hts (gT_V q_7_99 q_7_101 qp_55 q_1_12 q_7_102) rfl rfl rfl hdX12_four ⟨Nat.le_of_ble_eq_true rfl, Nat.le_of_ble_eq_true rfl⟩) 0 10 (aM_0 K o1.2) rfl rfl hl.1 rfl (Nat.le_of_ble_eq_true rfl) dX12_enter_18 ⟨Nat.le_of_ble_eq_true rfl, Nat.le_of_ble_eq_true rfl⟩ rfl rfl (fun H locs hW => ?_)
    rcases Decidable.em (o5.1 < 0 ∨ 2100 ≤ o5.1.toNatClampNeg) with c8 | c8
    · replace hf := (if_pos c8).symm.trans hf
      exact absurd hf (by simp)
    · replace hf := (if_neg c8).symm.trans hf
      refine gw_iald F hW 7 6 (aM_7 K o5.2) rfl c8 dX12_enter_21 ?_
      refine lv_iconst (v := (2 : Int32)) hx hb dX12_enter_22 (by decide) ?_
      refine lv_icmp_eq (tgt := 30) hx hb dX12_enter_23 (by decide) (fun c9 => ?_) (fun c9 => ?_)
      · replace hf := (if_pos c9).symm.trans hf
        refine lv_iconst (v := (0 : Int32)) hx hb dX12_enter_30 (by decide) ?_
        exact wMX12_enter_0_31 F (0 : Int32) _ _ hf _ _ _ (lv_sub hl [0] rfl) hW
      · replace hf := (if_neg c9).symm.trans hf
        refine lv_iconst (v := (1 : Int32)) hx hb dX12_enter_26 (by decide) ?_
        refine lv_goto (tgt := 31) hx hb dX12_enter_27 (by decide) ?_
        exact wMX12_enter_0_31 F (1 : Int32) _ _ hf _ _ _ (lv_sub hl [0] rfl) hW
set_option maxHeartbeats 4000000 in
set_option maxRecDepth 100000 in
theorem mMX12_enter_0 {l : Launch} {K : KX} {σ : XS} {x1 : Int32} {o : (Int32 × XS)} (hf : fMX12_enter_0 (kn K) x1 σ = some o) : gw_Mi l (kD K) vwCl (tyM K) (wM K) yX12_enter wsX12_enter rMX12_enter_0 [.ref (ka K 0), .int x1] σ o := by
  intro sz
  refine gw_body (cc := cX12_enter) (maxL := 2) (yret := some .int) (by decide +kernel) rfl ?_ (Nat.le_of_ble_eq_true rfl)
  intro p e s m below meth c F hsz hW ls hl
  exact wMX12_enter_0_0 F x1 σ o hf s.heap [] ls hl hW
abbrev rMX12_up_0 : Room := { frames := 2, cells := 0, slots := 0, locals := 42 }
set_option maxHeartbeats 4000000 in
set_option maxRecDepth 100000 in
theorem wMX12_up_0_0 {p : Program} {l : Launch} {e : Env} {s : State} {m : MethodId} {args : Array Value} {below : List Frame} {meth : Method} {c : Code} {A : Nat → Prop} {K : KX} (F : fx_ p s m args meth c cX12_up 1 (some .boolean) RX12 wsX12_up) (σ : XS) (o : (Int32 × XS)) (hf : fMX12_up_0_0 (kn K) σ = some o) (H : Heap) (locs : List Loc) (ls : Array Slot) (hl : lv_has ls 1 [(0, .ref (ka K 0))]) (hW : gw_ (kD K) vwCl (tyM K) (wM K) A s σ H locs) : W p l e rMX12_up_0 s m args below meth c H locs 0 0 (MQ below (va_Qi (fun r u => (r = o.1 ∧ u = o.2) ∧ (o.1 = 0 ∨ o.1 = 1)) (gw_B (kD K) vwCl (tyM K) (wM K) A) A) args s rMX12_up_0.cells rMX12_up_0.slots A) (F0 m 0 ls []) := by
  have hx := F.1
  have hb := F.2.1
  have hml := F.2.2.2.1
  have hown := F.2.2.2.2.1
  have hts := F.2.2.2.2.2.1
  have hG : ∀ x ∈ gT, x.before args s = true := fun x h => hts x (List.mem_cons_of_mem _ h)
  unfold fMX12_up_0_0 at hf
  refine lv_aload_n hx hb dX12_up_0 rfl (lv_at hl 0 rfl) ?_
  obtain ⟨o1, h2, hf⟩ := gw_bind hf
  refine gw_Vz (As := []) (mc' := 0) (ms' := 0) F hW (mMX12_none_0 h2) (cwV 0 hts (gT_V q_7_83 q_7_85 qp_51 q_1_12 q_7_86) rfl rfl rfl hdX12_none ⟨Nat.le_of_ble_eq_true rfl, Nat.le_of_ble_eq_true rfl⟩) 0 10 (aM_0 K σ) rfl rfl hl.1 rfl (Nat.le_of_ble_eq_true rfl) dX12_up_1 ⟨Nat.le_of_ble_eq_true rfl, Nat.le_of_ble_eq_true rfl⟩ rfl rfl (fun H locs z3 hW => ?_)
  refine lv_if_ne (tgt := 15) hx hb dX12_up_4 (by decide) (fun c4 => ?_) (fun c4 => ?_)
  · replace hf := (if_neg c4).symm.trans hf
    refine lv_iconst (v := (0 : Int32)) hx hb dX12_up_15 (by decide) ?_
    exact gw_retz F hW hf (Or.inl rfl) dX12_up_16
  · replace hf := (if_pos c4).symm.trans hf
    refine lv_aload_n hx hb dX12_up_7 rfl (lv_at hl 0 rfl) ?_
    refine gw_get (v := .int (o1.2.1 9)) F inc_X12 hW 0 10 27 (aM_0 K o1.2) rfl (by decide) (hG _ q_6_139) (fun _ h9 => h9) rfl dX12_up_8 ?_
    refine lv_iconst (v := (2 : Int32)) hx hb dX12_up_11 (by decide) ?_
    refine lv_icmp_ne (tgt := 17) hx hb dX12_up_12 (by decide) (fun c5 => ?_) (fun c5 => ?_)
    · replace hf := (if_neg c5).symm.trans hf
      refine lv_aload_n hx hb dX12_up_17 rfl (lv_at hl 0 rfl) ?_
      refine lv_aload_n hx hb dX12_up_18 rfl (lv_at hl 0 rfl) ?_
      refine gw_get (v := .ref (ka K 16)) F inc_X12 hW 0 10 25 (aM_0 K o1.2) rfl (by decide) (hG _ q_6_137) (fun _ h9 => h9) rfl dX12_up_19 ?_
      refine lv_aload_n hx hb dX12_up_22 rfl (lv_at hl 0 rfl) ?_
      refine gw_get (v := .int (o1.2.1 9)) F inc_X12 hW 0 10 27 (aM_0 K o1.2) rfl (by decide) (hG _ q_6_139) (fun _ h9 => h9) rfl dX12_up_23 ?_
      rcases Decidable.em ((o1.2.1 9) < 0 ∨ 2100 ≤ (o1.2.1 9).toNatClampNeg) with c6 | c6
      · replace hf := (if_pos c6).symm.trans hf
        exact absurd hf (by simp)
      · replace hf := (if_neg c6).symm.trans hf
        refine gw_iald F hW 16 15 (aM_16 K o1.2) rfl c6 dX12_up_26 ?_
        refine gw_put (σ' := (stS o1.2 9 (o1.2.2.1 15 (o1.2.1 9).toNatClampNeg))) (ty := .int) F inc_X12 tyX12 tyX12_ok nmX12 hW 0 10 27 (aM_0 K o1.2) rfl (by decide) (hG _ q_6_139) (fun _ h9 => h9) rfl (by decide +kernel) rfl rfl (Nat.le_of_ble_eq_true rfl) dX12_up_27 (sSM_9 _ _ _) (fun H locs hW => ?_)
        refine lv_iconst (v := (1 : Int32)) hx hb dX12_up_30 (by decide) ?_
        exact gw_retz F hW hf (Or.inr rfl) dX12_up_31
    · replace hf := (if_pos c5).symm.trans hf
      refine lv_iconst (v := (0 : Int32)) hx hb dX12_up_15 (by decide) ?_
      exact gw_retz F hW hf (Or.inl rfl) dX12_up_16
set_option maxHeartbeats 4000000 in
set_option maxRecDepth 100000 in
theorem mMX12_up_0 {l : Launch} {K : KX} {σ : XS} {o : (Int32 × XS)} (hf : fMX12_up_0 (kn K) σ = some o) : gw_Mz l (kD K) vwCl (tyM K) (wM K) yX12_up wsX12_up rMX12_up_0 [.ref (ka K 0)] σ o := by
  intro sz
  refine gw_body (cc := cX12_up) (maxL := 1) (yret := some .boolean) (by decide +kernel) rfl ?_ (Nat.le_of_ble_eq_true rfl)
  intro p e s m below meth c F hsz hW ls hl
  exact wMX12_up_0_0 F σ o hf s.heap [] ls hl hW
abbrev rMX12_named_0 : Room := { frames := 0, cells := 0, slots := 0, locals := 0 }
def PMX12_named_0_37 (p : Program) (l : Launch) (e : Env) (s : State) (m : MethodId) (args : Array Value) (below : List Frame) (meth : Method) (c : Code) (A : Nat → Prop) (K : KX) (t : (Int32 × Int32 × XS)) (o : (Int32 × XS)) : Prop := ∀ (H : Heap) (locs : List Loc) (ls : Array Slot), lv_has ls 3 [(0, .ref (ka K 0)), (1, .int t.1), (2, .int t.2.1)] → gw_ (kD K) vwCl (tyM K) (wM K) A s t.2.2 H locs → W p l e rMX12_named_0 s m args below meth c H locs 0 0 (MQ below (va_Qi (fun r u => (r = o.1 ∧ u = o.2) ∧ (o.1 = 0 ∨ o.1 = 1)) (gw_B (kD K) vwCl (tyM K) (wM K) A) A) args s rMX12_named_0.cells rMX12_named_0.slots A) (F0 m 37 ls [])
set_option maxHeartbeats 4000000 in
set_option maxRecDepth 100000 in
theorem wMX12_named_0_144 {p : Program} {l : Launch} {e : Env} {s : State} {m : MethodId} {args : Array Value} {below : List Frame} {meth : Method} {c : Code} {A : Nat → Prop} {K : KX} (F : fx_ p s m args meth c cX12_named 3 (some .boolean) RX12 wsX12_named) (σ : XS) (o : (Int32 × XS)) (hf : fMX12_named_0_144 (kn K) σ = some o) (H : Heap) (locs : List Loc) (ls : Array Slot) (hl : lv_has ls 3 []) (hW : gw_ (kD K) vwCl (tyM K) (wM K) A s σ H locs) : W p l e rMX12_named_0 s m args below meth c H locs 0 0 (MQ below (va_Qi (fun r u => (r = o.1 ∧ u = o.2) ∧ (o.1 = 0 ∨ o.1 = 1)) (gw_B (kD K) vwCl (tyM K) (wM K) A) A) args s rMX12_named_0.cells rMX12_named_0.slots A) (F0 m 144 ls []) := by
  have hx := F.1
  have hb := F.2.1
  have hml := F.2.2.2.1
  have hown := F.2.2.2.2.1
  have hts := F.2.2.2.2.2.1
  have hG : ∀ x ∈ gT, x.before args s = true := fun x h => hts x (List.mem_cons_of_mem _ h)
  unfold fMX12_named_0_144 at hf
  refine lv_iconst (v := (1 : Int32)) hx hb dX12_named_144 (by decide) ?_
  refine lv_goto (tgt := 149) hx hb dX12_named_145 (by decide) ?_
  exact gw_retz F hW hf (Or.inr rfl) dX12_named_149
set_option maxHeartbeats 4000000 in
set_option maxRecDepth 100000 in
theorem wMX12_named_0_90 {p : Program} {l : Launch} {e : Env} {s : State} {m : MethodId} {args : Array Value} {below : List Frame} {meth : Method} {c : Code} {A : Nat → Prop} {K : KX} (F : fx_ p s m args meth c cX12_named 3 (some .boolean) RX12 wsX12_named) {k37 : (Int32 × Int32 × XS) → Option (Int32 × XS)} (hk37 : ∀ t o, k37 t = some o → PMX12_named_0_37 p l e s m args below meth c A K t o) (x2 : Int32) (y0 : Int32) (σ : XS) (o : (Int32 × XS)) (hf : fMX12_named_0_90 (kn K) k37 x2 y0 σ = some o) (H : Heap) (locs : List Loc) (ls : Array Slot) (hl : lv_has ls 3 [(0, .ref (ka K 0)), (2, .int x2)]) (hW : gw_ (kD K) vwCl (tyM K) (wM K) A s σ H locs) : W p l e rMX12_named_0 s m args below meth c H locs 0 0 (MQ below (va_Qi (fun r u => (r = o.1 ∧ u = o.2) ∧ (o.1 = 0 ∨ o.1 = 1)) (gw_B (kD K) vwCl (tyM K) (wM K) A) A) args s rMX12_named_0.cells rMX12_named_0.slots A) (F0 m 90 ls [.int y0]) := by
  have hx := F.1
  have hb := F.2.1
  have hml := F.2.2.2.1
  have hown := F.2.2.2.2.1
  have hts := F.2.2.2.2.2.1
  have hG : ∀ x ∈ gT, x.before args s = true := fun x h => hts x (List.mem_cons_of_mem _ h)
  unfold fMX12_named_0_90 at hf
  refine lv_istore_n (lv' := [(1, .int y0), (0, .ref (ka K 0)), (2, .int x2)]) hx hb dX12_named_90 rfl hl (by decide) rfl (fun ls hl => ?_)
  refine lv_iinc (v := (x2 + (1 : Int32))) (lv' := [(2, .int (x2 + (1 : Int32))), (1, .int y0), (0, .ref (ka K 0))]) hx hb dX12_named_91 hl (k := 2) rfl rfl (by decide) rfl (fun ls hl => ?_)
  refine lv_goto (tgt := 37) hx hb dX12_named_94 (by decide) ?_
  exact hk37 _ _ hf _ _ _ (lv_sub hl [2, 1, 0] rfl) hW
set_option maxHeartbeats 4000000 in
set_option maxRecDepth 100000 in
theorem wMX12_named_0_89 {p : Program} {l : Launch} {e : Env} {s : State} {m : MethodId} {args : Array Value} {below : List Frame} {meth : Method} {c : Code} {A : Nat → Prop} {K : KX} (F : fx_ p s m args meth c cX12_named 3 (some .boolean) RX12 wsX12_named) {k37 : (Int32 × Int32 × XS) → Option (Int32 × XS)} (hk37 : ∀ t o, k37 t = some o → PMX12_named_0_37 p l e s m args below meth c A K t o) (x2 : Int32) (σ : XS) (o : (Int32 × XS)) (hf : fMX12_named_0_89 (kn K) k37 x2 σ = some o) (H : Heap) (locs : List Loc) (ls : Array Slot) (hl : lv_has ls 3 [(0, .ref (ka K 0)), (2, .int x2)]) (hW : gw_ (kD K) vwCl (tyM K) (wM K) A s σ H locs) : W p l e rMX12_named_0 s m args below meth c H locs 0 0 (MQ below (va_Qi (fun r u => (r = o.1 ∧ u = o.2) ∧ (o.1 = 0 ∨ o.1 = 1)) (gw_B (kD K) vwCl (tyM K) (wM K) A) A) args s rMX12_named_0.cells rMX12_named_0.slots A) (F0 m 89 ls []) := by
  have hx := F.1
  have hb := F.2.1
  have hml := F.2.2.2.1
  have hown := F.2.2.2.2.1
  have hts := F.2.2.2.2.2.1
  have hG : ∀ x ∈ gT, x.before args s = true := fun x h => hts x (List.mem_cons_of_mem _ h)
  unfold fMX12_named_0_89 at hf
  refine lv_iconst (v := (0 : Int32)) hx hb dX12_named_89 (by decide) ?_
  exact wMX12_named_0_90 F hk37 x2 (0 : Int32) _ _ hf _ _ _ (lv_sub hl [0, 1] rfl) hW
set_option maxHeartbeats 4000000 in
set_option maxRecDepth 100000 in
theorem wMX12_named_0_37 {p : Program} {l : Launch} {e : Env} {s : State} {m : MethodId} {args : Array Value} {below : List Frame} {meth : Method} {c : Code} {A : Nat → Prop} {K : KX} (F : fx_ p s m args meth c cX12_named 3 (some .boolean) RX12 wsX12_named) {k37 : (Int32 × Int32 × XS) → Option (Int32 × XS)} (hk37 : ∀ t o, k37 t = some o → PMX12_named_0_37 p l e s m args below meth c A K t o) (x1 : Int32) (x2 : Int32) (σ : XS) (o : (Int32 × XS)) (hf : fMX12_named_0_37 (kn K) k37 x1 x2 σ = some o) (H : Heap) (locs : List Loc) (ls : Array Slot) (hl : lv_has ls 3 [(0, .ref (ka K 0)), (1, .int x1), (2, .int x2)]) (hW : gw_ (kD K) vwCl (tyM K) (wM K) A s σ H locs) : W p l e rMX12_named_0 s m args below meth c H locs 0 0 (MQ below (va_Qi (fun r u => (r = o.1 ∧ u = o.2) ∧ (o.1 = 0 ∨ o.1 = 1)) (gw_B (kD K) vwCl (tyM K) (wM K) A) A) args s rMX12_named_0.cells rMX12_named_0.slots A) (F0 m 37 ls []) := by
  have hx := F.1
  have hb := F.2.1
  have hml := F.2.2.2.1
  have hown := F.2.2.2.2.1
  have hts := F.2.2.2.2.2.1
  have hG : ∀ x ∈ gT, x.before args s = true := fun x h => hts x (List.mem_cons_of_mem _ h)
  unfold fMX12_named_0_37 at hf
  refine lv_iload_n hx hb dX12_named_37 rfl (lv_at hl 2 rfl) ?_
  refine lv_aload_n hx hb dX12_named_38 rfl (lv_at hl 0 rfl) ?_
  refine gw_get (v := .int (σ.1 12)) F inc_X12 hW 0 10 31 (aM_0 K σ) rfl (by decide) (hG _ q_6_143) (fun _ h9 => h9) rfl dX12_named_39 ?_
  refine lv_icmp_ge (tgt := 97) hx hb dX12_named_42 (by decide) (fun c3 => ?_) (fun c3 => ?_)
  · replace hf := (if_pos c3).symm.trans hf
    refine lv_aload_n hx hb dX12_named_97 rfl (lv_at hl 0 rfl) ?_
    refine lv_iconst (v := (0 : Int32)) hx hb dX12_named_98 (by decide) ?_
    refine gw_put (σ' := (stS σ 1 (0 : Int32))) (ty := .int) F inc_X12 tyX12 tyX12_ok nmX12 hW 0 10 6 (aM_0 K σ) rfl (by decide) (hG _ q_6_118) (fun _ h9 => h9) rfl (by decide +kernel) rfl rfl (Nat.le_of_ble_eq_true rfl) dX12_named_99 (sSM_1 _ _ _) (fun H locs hW => ?_)
    refine lv_iload_n hx hb dX12_named_102 rfl (lv_at hl 1 rfl) ?_
    refine lv_if_eq (tgt := 148) hx hb dX12_named_103 (by decide) (fun c4 => ?_) (fun c4 => ?_)
    · replace hf := (if_pos c4).symm.trans hf
      refine lv_iconst (v := (0 : Int32)) hx hb dX12_named_148 (by decide) ?_
      exact gw_retz F hW hf (Or.inl rfl) dX12_named_149
    · replace hf := (if_neg c4).symm.trans hf
      refine lv_aload_n hx hb dX12_named_106 rfl (lv_at hl 0 rfl) ?_
      refine gw_get (v := .ref (ka K 18)) F inc_X12 hW 0 10 30 (aM_0 K (stS σ 1 (0 : Int32))) rfl (by decide) (hG _ q_6_142) (fun _ h9 => h9) rfl dX12_named_107 ?_
      refine lv_iconst (v := (0 : Int32)) hx hb dX12_named_110 (by decide) ?_
      rcases Decidable.em ((0 : Int32) < 0 ∨ 255 ≤ (0 : Int32).toNatClampNeg) with c5 | c5
      · replace hf := (if_pos c5).symm.trans hf
        exact absurd hf (by simp)
      · replace hf := (if_neg c5).symm.trans hf
        refine gw_iald F hW 18 17 (aM_18 K (stS σ 1 (0 : Int32))) rfl c5 dX12_named_111 ?_
        refine lv_bipush (v := (46 : Int32)) hx hb dX12_named_112 (by decide) ?_
        refine lv_icmp_ne (tgt := 144) hx hb dX12_named_114 (by decide) (fun c6 => ?_) (fun c6 => ?_)
        · replace hf := (if_neg c6).symm.trans hf
          exact wMX12_named_0_144 F _ _ hf _ _ _ (lv_sub hl [] rfl) hW
        · replace hf := (if_pos c6).symm.trans hf
          refine lv_aload_n hx hb dX12_named_117 rfl (lv_at hl 0 rfl) ?_
          refine gw_get (v := .int (σ.1 12)) F inc_X12 hW 0 10 31 (aM_0 K (stS σ 1 (0 : Int32))) rfl (by decide) (hG _ q_6_143) (fun _ h9 => h9) rfl dX12_named_118 ?_
          refine lv_iconst (v := (1 : Int32)) hx hb dX12_named_121 (by decide) ?_
          refine lv_icmp_eq (tgt := 148) hx hb dX12_named_122 (by decide) (fun c7 => ?_) (fun c7 => ?_)
          · replace hf := (if_pos c7).symm.trans hf
            refine lv_iconst (v := (0 : Int32)) hx hb dX12_named_148 (by decide) ?_
            exact gw_retz F hW hf (Or.inl rfl) dX12_named_149
          · replace hf := (if_neg c7).symm.trans hf
            refine lv_aload_n hx hb dX12_named_125 rfl (lv_at hl 0 rfl) ?_
            refine gw_get (v := .int (σ.1 12)) F inc_X12 hW 0 10 31 (aM_0 K (stS σ 1 (0 : Int32))) rfl (by decide) (hG _ q_6_143) (fun _ h9 => h9) rfl dX12_named_126 ?_
            refine lv_iconst (v := (2 : Int32)) hx hb dX12_named_129 (by decide) ?_
            refine lv_icmp_ne (tgt := 144) hx hb dX12_named_130 (by decide) (fun c8 => ?_) (fun c8 => ?_)
            · replace hf := (if_neg c8).symm.trans hf
              exact wMX12_named_0_144 F _ _ hf _ _ _ (lv_sub hl [] rfl) hW
            · replace hf := (if_pos c8).symm.trans hf
              refine lv_aload_n hx hb dX12_named_133 rfl (lv_at hl 0 rfl) ?_
              refine gw_get (v := .ref (ka K 18)) F inc_X12 hW 0 10 30 (aM_0 K (stS σ 1 (0 : Int32))) rfl (by decide) (hG _ q_6_142) (fun _ h9 => h9) rfl dX12_named_134 ?_
              refine lv_iconst (v := (1 : Int32)) hx hb dX12_named_137 (by decide) ?_
              rcases Decidable.em ((1 : Int32) < 0 ∨ 255 ≤ (1 : Int32).toNatClampNeg) with c9 | c9
              · replace hf := (if_pos c9).symm.trans hf
                exact absurd hf (by simp)
              · replace hf := (if_neg c9).symm.trans hf
                refine gw_iald F hW 18 17 (aM_18 K (stS σ 1 (0 : Int32))) rfl c9 dX12_named_138 ?_
                refine lv_bipush (v := (46 : Int32)) hx hb dX12_named_139 (by decide) ?_
                refine lv_icmp_eq (tgt := 148) hx hb dX12_named_141 (by decide) (fun c10 => ?_) (fun c10 => ?_)
                · replace hf := (if_pos c10).symm.trans hf
                  refine lv_iconst (v := (0 : Int32)) hx hb dX12_named_148 (by decide) ?_
                  exact gw_retz F hW hf (Or.inl rfl) dX12_named_149
                · replace hf := (if_neg c10).symm.trans hf
                  exact wMX12_named_0_144 F _ _ hf _ _ _ (lv_sub hl [] rfl) hW
  · replace hf := (if_neg c3).symm.trans hf
    refine lv_aload_n hx hb dX12_named_45 rfl (lv_at hl 0 rfl) ?_
    refine gw_get (v := .ref (ka K 18)) F inc_X12 hW 0 10 30 (aM_0 K σ) rfl (by decide) (hG _ q_6_142) (fun _ h9 => h9) rfl dX12_named_46 ?_
    refine lv_iload_n hx hb dX12_named_49 rfl (lv_at hl 2 rfl) ?_
    refine lv_aload_n hx hb dX12_named_50 rfl (lv_at hl 0 rfl) ?_
    refine gw_get (v := .ref (ka K 3)) F inc_X12 hW 0 10 4 (aM_0 K σ) rfl (by decide) (hG _ q_6_116) (fun _ h9 => h9) rfl dX12_named_51 ?_
    refine lv_iload_n hx hb dX12_named_54 rfl (lv_at hl 2 rfl) ?_
    rcases Decidable.em (x2 < 0 ∨ 4096 ≤ x2.toNatClampNeg) with c11 | c11
    · replace hf := (if_pos c11).symm.trans hf
      exact absurd hf (by simp)
    · replace hf := (if_neg c11).symm.trans hf
      refine gw_bald F hW 3 2 (aM_3 K σ) rfl c11 dX12_named_55 ?_
      refine lv_sipush (v := (255 : Int32)) hx hb dX12_named_56 (by decide) ?_
      refine lv_iand hx hb dX12_named_59 ?_
      rcases Decidable.em (x2 < 0 ∨ 255 ≤ x2.toNatClampNeg) with c12 | c12
      · replace hf := (if_pos c12).symm.trans hf
        exact absurd hf (by simp)
      · replace hf := (if_neg c12).symm.trans hf
        refine gw_iast (σ' := (stA σ 17 x2.toNatClampNeg ((σ.2.1 2 x2.toNatClampNeg) &&& (255 : Int32)))) F hW 18 17 (aM_18 K σ) rfl c12 dX12_named_60 (sAM_17 _ _ _) (fun H locs hW => ?_)
        refine lv_iload_n hx hb dX12_named_61 rfl (lv_at hl 1 rfl) ?_
        refine lv_if_eq (tgt := 89) hx hb dX12_named_62 (by decide) (fun c13 => ?_) (fun c13 => ?_)
        · replace hf := (if_pos c13).symm.trans hf
          exact wMX12_named_0_89 F hk37 x2 _ _ hf _ _ _ (lv_sub hl [0, 2] rfl) hW
        · replace hf := (if_neg c13).symm.trans hf
          refine lv_aload_n hx hb dX12_named_65 rfl (lv_at hl 0 rfl) ?_
          refine gw_get (v := .ref (ka K 18)) F inc_X12 hW 0 10 30 (aM_0 K (stA σ 17 x2.toNatClampNeg ((σ.2.1 2 x2.toNatClampNeg) &&& (255 : Int32)))) rfl (by decide) (hG _ q_6_142) (fun _ h9 => h9) rfl dX12_named_66 ?_
          refine lv_iload_n hx hb dX12_named_69 rfl (lv_at hl 2 rfl) ?_
          rcases Decidable.em (x2 < 0 ∨ 255 ≤ x2.toNatClampNeg) with c14 | c14
          · replace hf := (if_pos c14).symm.trans hf
            exact absurd hf (by simp)
          · replace hf := (if_neg c14).symm.trans hf
            refine gw_iald F hW 18 17 (aM_18 K (stA σ 17 x2.toNatClampNeg ((σ.2.1 2 x2.toNatClampNeg) &&& (255 : Int32)))) rfl c14 dX12_named_70 ?_
            refine lv_if_eq (tgt := 89) hx hb dX12_named_71 (by decide) (fun c15 => ?_) (fun c15 => ?_)
            · replace hf := (if_pos c15).symm.trans hf
              exact wMX12_named_0_89 F hk37 x2 _ _ hf _ _ _ (lv_sub hl [0, 2] rfl) hW
            · replace hf := (if_neg c15).symm.trans hf
              refine lv_aload_n hx hb dX12_named_74 rfl (lv_at hl 0 rfl) ?_
              refine gw_get (v := .ref (ka K 18)) F inc_X12 hW 0 10 30 (aM_0 K (stA σ 17 x2.toNatClampNeg ((σ.2.1 2 x2.toNatClampNeg) &&& (255 : Int32)))) rfl (by decide) (hG _ q_6_142) (fun _ h9 => h9) rfl dX12_named_75 ?_
              refine lv_iload_n hx hb dX12_named_78 rfl (lv_at hl 2 rfl) ?_
              rcases Decidable.em (x2 < 0 ∨ 255 ≤ x2.toNatClampNeg) with c16 | c16
              · replace hf := (if_pos c16).symm.trans hf
                exact absurd hf (by simp)
              · replace hf := (if_neg c16).symm.trans hf
                refine gw_iald F hW 18 17 (aM_18 K (stA σ 17 x2.toNatClampNeg ((σ.2.1 2 x2.toNatClampNeg) &&& (255 : Int32)))) rfl c16 dX12_named_79 ?_
                refine lv_bipush (v := (47 : Int32)) hx hb dX12_named_80 (by decide) ?_
                refine lv_icmp_eq (tgt := 89) hx hb dX12_named_82 (by decide) (fun c17 => ?_) (fun c17 => ?_)
                · replace hf := (if_pos c17).symm.trans hf
                  exact wMX12_named_0_89 F hk37 x2 _ _ hf _ _ _ (lv_sub hl [0, 2] rfl) hW
                · replace hf := (if_neg c17).symm.trans hf
                  refine lv_iconst (v := (1 : Int32)) hx hb dX12_named_85 (by decide) ?_
                  refine lv_goto (tgt := 90) hx hb dX12_named_86 (by decide) ?_
                  exact wMX12_named_0_90 F hk37 x2 (1 : Int32) _ _ hf _ _ _ (lv_sub hl [0, 2] rfl) hW
set_option maxHeartbeats 4000000 in
set_option maxRecDepth 100000 in
theorem wMX12_named_0_34 {p : Program} {l : Launch} {e : Env} {s : State} {m : MethodId} {args : Array Value} {below : List Frame} {meth : Method} {c : Code} {A : Nat → Prop} {K : KX} (F : fx_ p s m args meth c cX12_named 3 (some .boolean) RX12 wsX12_named) (y0 : Int32) (σ : XS) (o : (Int32 × XS)) (hf : fMX12_named_0_34 (kn K) y0 σ = some o) (H : Heap) (locs : List Loc) (ls : Array Slot) (hl : lv_has ls 3 [(0, .ref (ka K 0))]) (hW : gw_ (kD K) vwCl (tyM K) (wM K) A s σ H locs) : W p l e rMX12_named_0 s m args below meth c H locs 0 0 (MQ below (va_Qi (fun r u => (r = o.1 ∧ u = o.2) ∧ (o.1 = 0 ∨ o.1 = 1)) (gw_B (kD K) vwCl (tyM K) (wM K) A) A) args s rMX12_named_0.cells rMX12_named_0.slots A) (F0 m 34 ls [.int y0]) := by
  have hx := F.1
  have hb := F.2.1
  have hml := F.2.2.2.1
  have hown := F.2.2.2.2.1
  have hts := F.2.2.2.2.2.1
  have hG : ∀ x ∈ gT, x.before args s = true := fun x h => hts x (List.mem_cons_of_mem _ h)
  unfold fMX12_named_0_34 at hf
  refine lv_istore_n (lv' := [(1, .int y0), (0, .ref (ka K 0))]) hx hb dX12_named_34 rfl hl (by decide) rfl (fun ls hl => ?_)
  refine lv_iconst (v := (0 : Int32)) hx hb dX12_named_35 (by decide) ?_
  refine lv_istore_n (lv' := [(2, .int (0 : Int32)), (1, .int y0), (0, .ref (ka K 0))]) hx hb dX12_named_36 rfl hl (by decide) rfl (fun ls hl => ?_)
  exact lfix_ind (P := PMX12_named_0_37 p l e s m args below meth c A K) (fun k37 hk37 t o hf => wMX12_named_0_37 F hk37 t.1 t.2.1 t.2.2 o hf) FU _ _ hf _ _ _ (lv_sub hl [2, 1, 0] rfl) hW
set_option maxHeartbeats 4000000 in
set_option maxRecDepth 100000 in
theorem wMX12_named_0_19 {p : Program} {l : Launch} {e : Env} {s : State} {m : MethodId} {args : Array Value} {below : List Frame} {meth : Method} {c : Code} {A : Nat → Prop} {K : KX} (F : fx_ p s m args meth c cX12_named 3 (some .boolean) RX12 wsX12_named) (y0 : Int32) (σ : XS) (o : (Int32 × XS)) (hf : fMX12_named_0_19 (kn K) y0 σ = some o) (H : Heap) (locs : List Loc) (ls : Array Slot) (hl : lv_has ls 3 [(0, .ref (ka K 0))]) (hW : gw_ (kD K) vwCl (tyM K) (wM K) A s σ H locs) : W p l e rMX12_named_0 s m args below meth c H locs 0 0 (MQ below (va_Qi (fun r u => (r = o.1 ∧ u = o.2) ∧ (o.1 = 0 ∨ o.1 = 1)) (gw_B (kD K) vwCl (tyM K) (wM K) A) A) args s rMX12_named_0.cells rMX12_named_0.slots A) (F0 m 19 ls [.int y0, .ref (ka K 0)]) := by
  have hx := F.1
  have hb := F.2.1
  have hml := F.2.2.2.1
  have hown := F.2.2.2.2.1
  have hts := F.2.2.2.2.2.1
  have hG : ∀ x ∈ gT, x.before args s = true := fun x h => hts x (List.mem_cons_of_mem _ h)
  unfold fMX12_named_0_19 at hf
  refine gw_put (σ' := (stS σ 12 y0)) (ty := .int) F inc_X12 tyX12 tyX12_ok nmX12 hW 0 10 31 (aM_0 K σ) rfl (by decide) (hG _ q_6_143) (fun _ h9 => h9) rfl (by decide +kernel) rfl rfl (Nat.le_of_ble_eq_true rfl) dX12_named_19 (sSM_12 _ _ _) (fun H locs hW => ?_)
  refine lv_aload_n hx hb dX12_named_22 rfl (lv_at hl 0 rfl) ?_
  refine gw_get (v := .int y0) F inc_X12 hW 0 10 31 (aM_0 K (stS σ 12 y0)) rfl (by decide) (hG _ q_6_143) (fun _ h9 => h9) rfl dX12_named_23 ?_
  refine lv_if_le (tgt := 33) hx hb dX12_named_26 (by decide) (fun c2 => ?_) (fun c2 => ?_)
  · replace hf := (if_pos c2).symm.trans hf
    refine lv_iconst (v := (0 : Int32)) hx hb dX12_named_33 (by decide) ?_
    exact wMX12_named_0_34 F (0 : Int32) _ _ hf _ _ _ (lv_sub hl [0] rfl) hW
  · replace hf := (if_neg c2).symm.trans hf
    refine lv_iconst (v := (1 : Int32)) hx hb dX12_named_29 (by decide) ?_
    refine lv_goto (tgt := 34) hx hb dX12_named_30 (by decide) ?_
    exact wMX12_named_0_34 F (1 : Int32) _ _ hf _ _ _ (lv_sub hl [0] rfl) hW
set_option maxHeartbeats 4000000 in
set_option maxRecDepth 100000 in
theorem wMX12_named_0_0 {p : Program} {l : Launch} {e : Env} {s : State} {m : MethodId} {args : Array Value} {below : List Frame} {meth : Method} {c : Code} {A : Nat → Prop} {K : KX} (F : fx_ p s m args meth c cX12_named 3 (some .boolean) RX12 wsX12_named) (σ : XS) (o : (Int32 × XS)) (hf : fMX12_named_0_0 (kn K) σ = some o) (H : Heap) (locs : List Loc) (ls : Array Slot) (hl : lv_has ls 3 [(0, .ref (ka K 0))]) (hW : gw_ (kD K) vwCl (tyM K) (wM K) A s σ H locs) : W p l e rMX12_named_0 s m args below meth c H locs 0 0 (MQ below (va_Qi (fun r u => (r = o.1 ∧ u = o.2) ∧ (o.1 = 0 ∨ o.1 = 1)) (gw_B (kD K) vwCl (tyM K) (wM K) A) A) args s rMX12_named_0.cells rMX12_named_0.slots A) (F0 m 0 ls []) := by
  have hx := F.1
  have hb := F.2.1
  have hml := F.2.2.2.1
  have hown := F.2.2.2.2.1
  have hts := F.2.2.2.2.2.1
  have hG : ∀ x ∈ gT, x.before args s = true := fun x h => hts x (List.mem_cons_of_mem _ h)
  unfold fMX12_named_0_0 at hf
  refine lv_aload_n hx hb dX12_named_0 rfl (lv_at hl 0 rfl) ?_
  refine lv_aload_n hx hb dX12_named_1 rfl (lv_at hl 0 rfl) ?_
  refine gw_get (v := .int (σ.1 1)) F inc_X12 hW 0 10 6 (aM_0 K σ) rfl (by decide) (hG _ q_6_118) (fun _ h9 => h9) rfl dX12_named_2 ?_
  refine lv_sipush (v := (255 : Int32)) hx hb dX12_named_5 (by decide) ?_
  refine lv_icmp_le (tgt := 15) hx hb dX12_named_8 (by decide) (fun c1 => ?_) (fun c1 => ?_)
  · replace hf := (if_pos c1).symm.trans hf
    refine lv_aload_n hx hb dX12_named_15 rfl (lv_at hl 0 rfl) ?_
    refine gw_get (v := .int (σ.1 1)) F inc_X12 hW 0 10 6 (aM_0 K σ) rfl (by decide) (hG _ q_6_118) (fun _ h9 => h9) rfl dX12_named_16 ?_
    exact wMX12_named_0_19 F (σ.1 1) _ _ hf _ _ _ (lv_sub hl [0] rfl) hW
  · replace hf := (if_neg c1).symm.trans hf
    refine lv_iconst (v := (0 : Int32)) hx hb dX12_named_11 (by decide) ?_
    refine lv_goto (tgt := 19) hx hb dX12_named_12 (by decide) ?_
    exact wMX12_named_0_19 F (0 : Int32) _ _ hf _ _ _ (lv_sub hl [0] rfl) hW
set_option maxHeartbeats 4000000 in
set_option maxRecDepth 100000 in
theorem mMX12_named_0 {l : Launch} {K : KX} {σ : XS} {o : (Int32 × XS)} (hf : fMX12_named_0 (kn K) σ = some o) : gw_Mz l (kD K) vwCl (tyM K) (wM K) yX12_named wsX12_named rMX12_named_0 [.ref (ka K 0)] σ o := by
  intro sz
  refine gw_body (cc := cX12_named) (maxL := 3) (yret := some .boolean) (by decide +kernel) rfl ?_ (Nat.le_of_ble_eq_true rfl)
  intro p e s m below meth c F hsz hW ls hl
  exact wMX12_named_0_0 F σ o hf s.heap [] ls hl hW
