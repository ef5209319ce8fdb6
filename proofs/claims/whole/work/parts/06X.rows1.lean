abbrev rXX4_size_6 : Room := { frames := 1, cells := 0, slots := 0, locals := 22 }
set_option maxHeartbeats 4000000 in
set_option maxRecDepth 100000 in
theorem wXX4_size_6_0 {p : Program} {l : Launch} {e : Env} {s : State} {m : MethodId} {args : Array Value} {below : List Frame} {meth : Method} {c : Code} {A : Nat → Prop} {K : KX} (F : fx_ p s m args meth c cX4_size 2 (some .int) RX4 wsX4_size) (x1 : Int32) (σ : XS) (o : (Int32 × XS)) (hf : fXX4_size_6_0 (kn K) x1 σ = some o) (H : Heap) (locs : List Loc) (ls : Array Slot) (hl : lv_has ls 2 [(0, .ref (ka K 6)), (1, .int x1)]) (hW : gw_ (kD K) vwCl (tyX K) (wX K) A s σ H locs) : W p l e rXX4_size_6 s m args below meth c H locs 0 0 (MQ below (gw_Qi (kD K) vwCl (tyX K) (wX K) A o) args s rXX4_size_6.cells rXX4_size_6.slots A) (F0 m 0 ls []) := by
  have hx := F.1
  have hb := F.2.1
  have hml := F.2.2.2.1
  have hown := F.2.2.2.2.1
  have hts := F.2.2.2.2.2.1
  have hG : ∀ x ∈ gT, x.before args s = true := fun x h => hts x (List.mem_cons_of_mem _ h)
  unfold fXX4_size_6_0 at hf
  refine lv_aload_n hx hb dX4_size_0 rfl (lv_at hl 0 rfl) ?_
  refine gw_get (v := .ref (ka K 1)) F inc_X4 hW 6 4 0 (aX_6 K σ) rfl (by decide) (hG _ q_1_108) (fun _ h9 => h9) rfl dX4_size_1 ?_
  refine lv_aload_n hx hb dX4_size_4 rfl (lv_at hl 0 rfl) ?_
  refine gw_get (v := .ref (ka K 3)) F inc_X4 hW 6 4 1 (aX_6 K σ) rfl (by decide) (hG _ q_1_109) (fun _ h9 => h9) rfl dX4_size_5 ?_
  refine lv_iload_n hx hb dX4_size_8 rfl (lv_at hl 1 rfl) ?_
  obtain ⟨o1, h2, hf⟩ := gw_bind hf
  refine gw_Vi (As := [.int x1]) (mc' := 0) (ms' := 0) F hW (mXX2_inodeAt_3 h2) (cwV 1 hts (gT_V q_2_147 q_2_101 q_2_102 q_1_4 q_2_103) rfl rfl rfl hdX2_inodeAt ⟨Nat.le_of_ble_eq_true rfl, Nat.le_of_ble_eq_true rfl⟩) 3 2 (aX_3 K σ) rfl rfl hl.1 rfl (Nat.le_of_ble_eq_true rfl) dX4_size_9 ⟨Nat.le_of_ble_eq_true rfl, Nat.le_of_ble_eq_true rfl⟩ rfl rfl (fun H locs hW => ?_)
  refine lv_iconst (v := (4 : Int32)) hx hb dX4_size_12 (by decide) ?_
  refine lv_iadd hx hb dX4_size_13 ?_
  obtain ⟨o4, h5, hf⟩ := gw_bind hf
  refine gw_Vi (As := [.int (o1.1 + (4 : Int32))]) (mc' := 0) (ms' := 0) F hW (mXX1_get4_1 h5) (cwV 1 hts (gT_V q_2_157 q_2_114 q_2_115 q_1_3 q_2_116) rfl rfl rfl hdX1_get4 ⟨Nat.le_of_ble_eq_true rfl, Nat.le_of_ble_eq_true rfl⟩) 1 1 (aX_1 K o1.2) rfl rfl hl.1 rfl (Nat.le_of_ble_eq_true rfl) dX4_size_14 ⟨Nat.le_of_ble_eq_true rfl, Nat.le_of_ble_eq_true rfl⟩ rfl rfl (fun H locs hW => ?_)
  exact gw_reti F hW hf dX4_size_17
set_option maxHeartbeats 4000000 in
set_option maxRecDepth 100000 in
theorem mXX4_size_6 {l : Launch} {K : KX} {σ : XS} {x1 : Int32} {o : (Int32 × XS)} (hf : fXX4_size_6 (kn K) x1 σ = some o) : gw_Mi l (kD K) vwCl (tyX K) (wX K) yX4_size wsX4_size rXX4_size_6 [.ref (ka K 6), .int x1] σ o := by
  intro sz
  refine gw_body (cc := cX4_size) (maxL := 2) (yret := some .int) (by decide +kernel) rfl ?_ (Nat.le_of_ble_eq_true rfl)
  intro p e s m below meth c F hsz hW ls hl
  exact wXX4_size_6_0 F x1 σ o hf s.heap [] ls hl hW
abbrev rXX4_blocksFor : Room := { frames := 0, cells := 0, slots := 0, locals := 0 }
set_option maxHeartbeats 4000000 in
set_option maxRecDepth 100000 in
theorem wXX4_blocksFor_0 {p : Program} {l : Launch} {e : Env} {s : State} {m : MethodId} {args : Array Value} {below : List Frame} {meth : Method} {c : Code} {A : Nat → Prop} {K : KX} (F : fx_ p s m args meth c cX4_blocksFor 1 (some .int) RX4 wsX4_blocksFor) (x0 : Int32) (σ : XS) (o : (Int32 × XS)) (hf : fXX4_blocksFor_0 (kn K) x0 σ = some o) (H : Heap) (locs : List Loc) (ls : Array Slot) (hl : lv_has ls 1 [(0, .int x0)]) (hW : gw_ (kD K) vwCl (tyX K) (wX K) A s σ H locs) : W p l e rXX4_blocksFor s m args below meth c H locs 0 0 (MQ below (gw_Qi (kD K) vwCl (tyX K) (wX K) A o) args s rXX4_blocksFor.cells rXX4_blocksFor.slots A) (F0 m 0 ls []) := by
  have hx := F.1
  have hb := F.2.1
  have hml := F.2.2.2.1
  have hown := F.2.2.2.2.1
  have hts := F.2.2.2.2.2.1
  have hG : ∀ x ∈ gT, x.before args s = true := fun x h => hts x (List.mem_cons_of_mem _ h)
  unfold fXX4_blocksFor_0 at hf
  refine lv_iload_n hx hb dX4_blocksFor_0 rfl (lv_at hl 0 rfl) ?_
  refine lv_sipush (v := (1024 : Int32)) hx hb dX4_blocksFor_1 (by decide) ?_
  refine lv_iadd hx hb dX4_blocksFor_4 ?_
  refine lv_iconst (v := (1 : Int32)) hx hb dX4_blocksFor_5 (by decide) ?_
  refine lv_isub hx hb dX4_blocksFor_6 ?_
  refine lv_sipush (v := (1024 : Int32)) hx hb dX4_blocksFor_7 (by decide) ?_
  refine lv_idiv hx hb dX4_blocksFor_10 (by decide) ?_
  exact gw_reti F hW hf dX4_blocksFor_11
set_option maxHeartbeats 4000000 in
set_option maxRecDepth 100000 in
theorem mXX4_blocksFor {l : Launch} {K : KX} {σ : XS} {x0 : Int32} {o : (Int32 × XS)} (hf : fXX4_blocksFor (kn K) x0 σ = some o) : gw_Mi l (kD K) vwCl (tyX K) (wX K) yX4_blocksFor wsX4_blocksFor rXX4_blocksFor [.int x0] σ o := by
  intro sz
  refine gw_body (cc := cX4_blocksFor) (maxL := 1) (yret := some .int) (by decide +kernel) rfl ?_ (Nat.le_of_ble_eq_true rfl)
  intro p e s m below meth c F hsz hW ls hl
  exact wXX4_blocksFor_0 F x0 σ o hf s.heap [] ls hl hW
abbrev rXX4_beginsRow : Room := { frames := 0, cells := 0, slots := 0, locals := 0 }
set_option maxHeartbeats 4000000 in
set_option maxRecDepth 100000 in
theorem wXX4_beginsRow_0 {p : Program} {l : Launch} {e : Env} {s : State} {m : MethodId} {args : Array Value} {below : List Frame} {meth : Method} {c : Code} {A : Nat → Prop} {K : KX} (F : fx_ p s m args meth c cX4_beginsRow 1 (some .boolean) RX4 wsX4_beginsRow) (x0 : Int32) (σ : XS) (o : (Int32 × XS)) (hf : fXX4_beginsRow_0 (kn K) x0 σ = some o) (H : Heap) (locs : List Loc) (ls : Array Slot) (hl : lv_has ls 1 [(0, .int x0)]) (hW : gw_ (kD K) vwCl (tyX K) (wX K) A s σ H locs) : W p l e rXX4_beginsRow s m args below meth c H locs 0 0 (MQ below (va_Qi (fun r u => (r = o.1 ∧ u = o.2) ∧ (o.1 = 0 ∨ o.1 = 1)) (gw_B (kD K) vwCl (tyX K) (wX K) A) A) args s rXX4_beginsRow.cells rXX4_beginsRow.slots A) (F0 m 0 ls []) := by
  have hx := F.1
  have hb := F.2.1
  have hml := F.2.2.2.1
  have hown := F.2.2.2.2.1
  have hts := F.2.2.2.2.2.1
  have hG : ∀ x ∈ gT, x.before args s = true := fun x h => hts x (List.mem_cons_of_mem _ h)
  unfold fXX4_beginsRow_0 at hf
  refine lv_iload_n hx hb dX4_beginsRow_0 rfl (lv_at hl 0 rfl) ?_
  refine lv_sipush (v := (268 : Int32)) hx hb dX4_beginsRow_1 (by decide) ?_
  refine lv_icmp_lt (tgt := 23) hx hb dX4_beginsRow_4 (by decide) (fun c1 => ?_) (fun c1 => ?_)
  · replace hf := (if_pos c1).symm.trans hf
    refine lv_iconst (v := (0 : Int32)) hx hb dX4_beginsRow_23 (by decide) ?_
    exact gw_retz F hW hf (Or.inl rfl) dX4_beginsRow_24
  · replace hf := (if_neg c1).symm.trans hf
    refine lv_iload_n hx hb dX4_beginsRow_7 rfl (lv_at hl 0 rfl) ?_
    refine lv_sipush (v := (268 : Int32)) hx hb dX4_beginsRow_8 (by decide) ?_
    refine lv_isub hx hb dX4_beginsRow_11 ?_
    refine lv_sipush (v := (256 : Int32)) hx hb dX4_beginsRow_12 (by decide) ?_
    refine lv_irem hx hb dX4_beginsRow_15 (by decide) ?_
    refine lv_if_ne (tgt := 23) hx hb dX4_beginsRow_16 (by decide) (fun c2 => ?_) (fun c2 => ?_)
    · replace hf := (if_neg c2).symm.trans hf
      refine lv_iconst (v := (0 : Int32)) hx hb dX4_beginsRow_23 (by decide) ?_
      exact gw_retz F hW hf (Or.inl rfl) dX4_beginsRow_24
    · replace hf := (if_pos c2).symm.trans hf
      refine lv_iconst (v := (1 : Int32)) hx hb dX4_beginsRow_19 (by decide) ?_
      refine lv_goto (tgt := 24) hx hb dX4_beginsRow_20 (by decide) ?_
      exact gw_retz F hW hf (Or.inr rfl) dX4_beginsRow_24
set_option maxHeartbeats 4000000 in
set_option maxRecDepth 100000 in
theorem mXX4_beginsRow {l : Launch} {K : KX} {σ : XS} {x0 : Int32} {o : (Int32 × XS)} (hf : fXX4_beginsRow (kn K) x0 σ = some o) : gw_Mz l (kD K) vwCl (tyX K) (wX K) yX4_beginsRow wsX4_beginsRow rXX4_beginsRow [.int x0] σ o := by
  intro sz
  refine gw_body (cc := cX4_beginsRow) (maxL := 1) (yret := some .boolean) (by decide +kernel) rfl ?_ (Nat.le_of_ble_eq_true rfl)
  intro p e s m below meth c F hsz hW ls hl
  exact wXX4_beginsRow_0 F x0 σ o hf s.heap [] ls hl hW
abbrev rXX4_pointerAt_6 : Room := { frames := 1, cells := 0, slots := 0, locals := 21 }
set_option maxHeartbeats 4000000 in
set_option maxRecDepth 100000 in
theorem wXX4_pointerAt_6_0 {p : Program} {l : Launch} {e : Env} {s : State} {m : MethodId} {args : Array Value} {below : List Frame} {meth : Method} {c : Code} {A : Nat → Prop} {K : KX} (F : fx_ p s m args meth c cX4_pointerAt 4 (some .int) RX4 wsX4_pointerAt) (x1 : Int32) (x2 : Int32) (σ : XS) (o : (Int32 × XS)) (hf : fXX4_pointerAt_6_0 (kn K) x1 x2 σ = some o) (H : Heap) (locs : List Loc) (ls : Array Slot) (hl : lv_has ls 4 [(0, .ref (ka K 6)), (1, .int x1), (2, .int x2)]) (hW : gw_ (kD K) vwCl (tyX K) (wX K) A s σ H locs) : W p l e rXX4_pointerAt_6 s m args below meth c H locs 0 0 (MQ below (gw_Qi (kD K) vwCl (tyX K) (wX K) A o) args s rXX4_pointerAt_6.cells rXX4_pointerAt_6.slots A) (F0 m 0 ls []) := by
  have hx := F.1
  have hb := F.2.1
  have hml := F.2.2.2.1
  have hown := F.2.2.2.2.1
  have hts := F.2.2.2.2.2.1
  have hG : ∀ x ∈ gT, x.before args s = true := fun x h => hts x (List.mem_cons_of_mem _ h)
  unfold fXX4_pointerAt_6_0 at hf
  refine lv_iload_n hx hb dX4_pointerAt_0 rfl (lv_at hl 2 rfl) ?_
  refine lv_bipush (v := (12 : Int32)) hx hb dX4_pointerAt_1 (by decide) ?_
  refine lv_icmp_ge (tgt := 15) hx hb dX4_pointerAt_3 (by decide) (fun c1 => ?_) (fun c1 => ?_)
  · replace hf := (if_pos c1).symm.trans hf
    refine lv_iload_n hx hb dX4_pointerAt_15 rfl (lv_at hl 2 rfl) ?_
    refine lv_sipush (v := (268 : Int32)) hx hb dX4_pointerAt_16 (by decide) ?_
    refine lv_icmp_ge (tgt := 45) hx hb dX4_pointerAt_19 (by decide) (fun c2 => ?_) (fun c2 => ?_)
    · replace hf := (if_pos c2).symm.trans hf
      refine lv_aload_n hx hb dX4_pointerAt_45 rfl (lv_at hl 0 rfl) ?_
      refine gw_get (v := .ref (ka K 1)) F inc_X4 hW 6 4 0 (aX_6 K σ) rfl (by decide) (hG _ q_1_108) (fun _ h9 => h9) rfl dX4_pointerAt_46 ?_
      refine lv_iload_n hx hb dX4_pointerAt_49 rfl (lv_at hl 1 rfl) ?_
      refine lv_bipush (v := (92 : Int32)) hx hb dX4_pointerAt_50 (by decide) ?_
      refine lv_iadd hx hb dX4_pointerAt_52 ?_
      obtain ⟨o3, h4, hf⟩ := gw_bind hf
      refine gw_Vi (As := [.int (x1 + (92 : Int32))]) (mc' := 0) (ms' := 0) F hW (mXX1_get4_1 h4) (cwV 1 hts (gT_V q_2_157 q_2_114 q_2_115 q_1_3 q_2_116) rfl rfl rfl hdX1_get4 ⟨Nat.le_of_ble_eq_true rfl, Nat.le_of_ble_eq_true rfl⟩) 1 1 (aX_1 K σ) rfl rfl hl.1 rfl (Nat.le_of_ble_eq_true rfl) dX4_pointerAt_53 ⟨Nat.le_of_ble_eq_true rfl, Nat.le_of_ble_eq_true rfl⟩ rfl rfl (fun H locs hW => ?_)
      refine lv_sipush (v := (1024 : Int32)) hx hb dX4_pointerAt_56 (by decide) ?_
      refine lv_imul hx hb dX4_pointerAt_59 ?_
      refine lv_iconst (v := (4 : Int32)) hx hb dX4_pointerAt_60 (by decide) ?_
      refine lv_iload_n hx hb dX4_pointerAt_61 rfl (lv_at hl 2 rfl) ?_
      refine lv_sipush (v := (268 : Int32)) hx hb dX4_pointerAt_62 (by decide) ?_
      refine lv_isub hx hb dX4_pointerAt_65 ?_
      refine lv_sipush (v := (256 : Int32)) hx hb dX4_pointerAt_66 (by decide) ?_
      refine lv_idiv hx hb dX4_pointerAt_69 (by decide) ?_
      refine lv_imul hx hb dX4_pointerAt_70 ?_
      refine lv_iadd hx hb dX4_pointerAt_71 ?_
      refine lv_istore_n (lv' := [(3, .int ((o3.1 * (1024 : Int32)) + ((4 : Int32) * ((x2 - (268 : Int32)) / (256 : Int32))))), (0, .ref (ka K 6)), (1, .int x1), (2, .int x2)]) hx hb dX4_pointerAt_72 rfl hl (by decide) rfl (fun ls hl => ?_)
      refine lv_aload_n hx hb dX4_pointerAt_73 rfl (lv_at hl 1 rfl) ?_
      refine gw_get (v := .ref (ka K 1)) F inc_X4 hW 6 4 0 (aX_6 K o3.2) rfl (by decide) (hG _ q_1_108) (fun _ h9 => h9) rfl dX4_pointerAt_74 ?_
      refine lv_iload_n hx hb dX4_pointerAt_77 rfl (lv_at hl 0 rfl) ?_
      obtain ⟨o6, h7, hf⟩ := gw_bind hf
      refine gw_Vi (As := [.int ((o3.1 * (1024 : Int32)) + ((4 : Int32) * ((x2 - (268 : Int32)) / (256 : Int32))))]) (mc' := 0) (ms' := 0) F hW (mXX1_get4_1 h7) (cwV 1 hts (gT_V q_2_157 q_2_114 q_2_115 q_1_3 q_2_116) rfl rfl rfl hdX1_get4 ⟨Nat.le_of_ble_eq_true rfl, Nat.le_of_ble_eq_true rfl⟩) 1 1 (aX_1 K o3.2) rfl rfl hl.1 rfl (Nat.le_of_ble_eq_true rfl) dX4_pointerAt_78 ⟨Nat.le_of_ble_eq_true rfl, Nat.le_of_ble_eq_true rfl⟩ rfl rfl (fun H locs hW => ?_)
      refine lv_sipush (v := (1024 : Int32)) hx hb dX4_pointerAt_81 (by decide) ?_
      refine lv_imul hx hb dX4_pointerAt_84 ?_
      refine lv_iconst (v := (4 : Int32)) hx hb dX4_pointerAt_85 (by decide) ?_
      refine lv_iload_n hx hb dX4_pointerAt_86 rfl (lv_at hl 3 rfl) ?_
      refine lv_sipush (v := (268 : Int32)) hx hb dX4_pointerAt_87 (by decide) ?_
      refine lv_isub hx hb dX4_pointerAt_90 ?_
      refine lv_sipush (v := (256 : Int32)) hx hb dX4_pointerAt_91 (by decide) ?_
      refine lv_irem hx hb dX4_pointerAt_94 (by decide) ?_
      refine lv_imul hx hb dX4_pointerAt_95 ?_
      refine lv_iadd hx hb dX4_pointerAt_96 ?_
      exact gw_reti F hW hf dX4_pointerAt_97
    · replace hf := (if_neg c2).symm.trans hf
      refine lv_aload_n hx hb dX4_pointerAt_22 rfl (lv_at hl 0 rfl) ?_
      refine gw_get (v := .ref (ka K 1)) F inc_X4 hW 6 4 0 (aX_6 K σ) rfl (by decide) (hG _ q_1_108) (fun _ h9 => h9) rfl dX4_pointerAt_23 ?_
      refine lv_iload_n hx hb dX4_pointerAt_26 rfl (lv_at hl 1 rfl) ?_
      refine lv_bipush (v := (88 : Int32)) hx hb dX4_pointerAt_27 (by decide) ?_
      refine lv_iadd hx hb dX4_pointerAt_29 ?_
      obtain ⟨o9, h10, hf⟩ := gw_bind hf
      refine gw_Vi (As := [.int (x1 + (88 : Int32))]) (mc' := 0) (ms' := 0) F hW (mXX1_get4_1 h10) (cwV 1 hts (gT_V q_2_157 q_2_114 q_2_115 q_1_3 q_2_116) rfl rfl rfl hdX1_get4 ⟨Nat.le_of_ble_eq_true rfl, Nat.le_of_ble_eq_true rfl⟩) 1 1 (aX_1 K σ) rfl rfl hl.1 rfl (Nat.le_of_ble_eq_true rfl) dX4_pointerAt_30 ⟨Nat.le_of_ble_eq_true rfl, Nat.le_of_ble_eq_true rfl⟩ rfl rfl (fun H locs hW => ?_)
      refine lv_sipush (v := (1024 : Int32)) hx hb dX4_pointerAt_33 (by decide) ?_
      refine lv_imul hx hb dX4_pointerAt_36 ?_
      refine lv_iconst (v := (4 : Int32)) hx hb dX4_pointerAt_37 (by decide) ?_
      refine lv_iload_n hx hb dX4_pointerAt_38 rfl (lv_at hl 2 rfl) ?_
      refine lv_bipush (v := (12 : Int32)) hx hb dX4_pointerAt_39 (by decide) ?_
      refine lv_isub hx hb dX4_pointerAt_41 ?_
      refine lv_imul hx hb dX4_pointerAt_42 ?_
      refine lv_iadd hx hb dX4_pointerAt_43 ?_
      exact gw_reti F hW hf dX4_pointerAt_44
  · replace hf := (if_neg c1).symm.trans hf
    refine lv_iload_n hx hb dX4_pointerAt_6 rfl (lv_at hl 1 rfl) ?_
    refine lv_bipush (v := (40 : Int32)) hx hb dX4_pointerAt_7 (by decide) ?_
    refine lv_iadd hx hb dX4_pointerAt_9 ?_
    refine lv_iconst (v := (4 : Int32)) hx hb dX4_pointerAt_10 (by decide) ?_
    refine lv_iload_n hx hb dX4_pointerAt_11 rfl (lv_at hl 2 rfl) ?_
    refine lv_imul hx hb dX4_pointerAt_12 ?_
    refine lv_iadd hx hb dX4_pointerAt_13 ?_
    exact gw_reti F hW hf dX4_pointerAt_14
set_option maxHeartbeats 4000000 in
set_option maxRecDepth 100000 in
theorem mXX4_pointerAt_6 {l : Launch} {K : KX} {σ : XS} {x1 : Int32} {x2 : Int32} {o : (Int32 × XS)} (hf : fXX4_pointerAt_6 (kn K) x1 x2 σ = some o) : gw_Mi l (kD K) vwCl (tyX K) (wX K) yX4_pointerAt wsX4_pointerAt rXX4_pointerAt_6 [.ref (ka K 6), .int x1, .int x2] σ o := by
  intro sz
  refine gw_body (cc := cX4_pointerAt) (maxL := 4) (yret := some .int) (by decide +kernel) rfl ?_ (Nat.le_of_ble_eq_true rfl)
  intro p e s m below meth c F hsz hW ls hl
  exact wXX4_pointerAt_6_0 F x1 x2 σ o hf s.heap [] ls hl hW
abbrev rXX3_lowestClear : Room := { frames := 0, cells := 0, slots := 0, locals := 0 }
def PXX3_lowestClear_2 (p : Program) (l : Launch) (e : Env) (s : State) (m : MethodId) (args : Array Value) (below : List Frame) (meth : Method) (c : Code) (A : Nat → Prop) (K : KX) (t : (Int32 × Int32 × XS)) (o : (Int32 × XS)) : Prop := ∀ (H : Heap) (locs : List Loc) (ls : Array Slot), lv_has ls 2 [(0, .int t.1), (1, .int t.2.1)] → gw_ (kD K) vwCl (tyX K) (wX K) A s t.2.2 H locs → W p l e rXX3_lowestClear s m args below meth c H locs 0 0 (MQ below (gw_Qi (kD K) vwCl (tyX K) (wX K) A o) args s rXX3_lowestClear.cells rXX3_lowestClear.slots A) (F0 m 2 ls [])
set_option maxHeartbeats 4000000 in
set_option maxRecDepth 100000 in
theorem wXX3_lowestClear_2 {p : Program} {l : Launch} {e : Env} {s : State} {m : MethodId} {args : Array Value} {below : List Frame} {meth : Method} {c : Code} {A : Nat → Prop} {K : KX} (F : fx_ p s m args meth c cX3_lowestClear 2 (some .int) RX3 wsX3_lowestClear) {k2 : (Int32 × Int32 × XS) → Option (Int32 × XS)} (hk2 : ∀ t o, k2 t = some o → PXX3_lowestClear_2 p l e s m args below meth c A K t o) (x0 : Int32) (x1 : Int32) (σ : XS) (o : (Int32 × XS)) (hf : fXX3_lowestClear_2 (kn K) k2 x0 x1 σ = some o) (H : Heap) (locs : List Loc) (ls : Array Slot) (hl : lv_has ls 2 [(0, .int x0), (1, .int x1)]) (hW : gw_ (kD K) vwCl (tyX K) (wX K) A s σ H locs) : W p l e rXX3_lowestClear s m args below meth c H locs 0 0 (MQ below (gw_Qi (kD K) vwCl (tyX K) (wX K) A o) args s rXX3_lowestClear.cells rXX3_lowestClear.slots A) (F0 m 2 ls []) := by
  have hx := F.1
  have hb := F.2.1
  have hml := F.2.2.2.1
  have hown := F.2.2.2.2.1
  have hts := F.2.2.2.2.2.1
  have hG : ∀ x ∈ gT, x.before args s = true := fun x h => hts x (List.mem_cons_of_mem _ h)
  unfold fXX3_lowestClear_2 at hf
  refine lv_iload_n hx hb dX3_lowestClear_2 rfl (lv_at hl 1 rfl) ?_
  refine lv_bipush (v := (7 : Int32)) hx hb dX3_lowestClear_3 (by decide) ?_
  refine lv_icmp_ge (tgt := 23) hx hb dX3_lowestClear_5 (by decide) (fun c1 => ?_) (fun c1 => ?_)
  · replace hf := (if_pos c1).symm.trans hf
    refine lv_iload_n hx hb dX3_lowestClear_23 rfl (lv_at hl 1 rfl) ?_
    exact gw_reti F hW hf dX3_lowestClear_24
  · replace hf := (if_neg c1).symm.trans hf
    refine lv_iload_n hx hb dX3_lowestClear_8 rfl (lv_at hl 0 rfl) ?_
    refine lv_iload_n hx hb dX3_lowestClear_9 rfl (lv_at hl 1 rfl) ?_
    refine lv_ishr hx hb dX3_lowestClear_10 ?_
    refine lv_iconst (v := (1 : Int32)) hx hb dX3_lowestClear_11 (by decide) ?_
    refine lv_iand hx hb dX3_lowestClear_12 ?_
    refine lv_iconst (v := (1 : Int32)) hx hb dX3_lowestClear_13 (by decide) ?_
    refine lv_icmp_ne (tgt := 23) hx hb dX3_lowestClear_14 (by decide) (fun c2 => ?_) (fun c2 => ?_)
    · replace hf := (if_neg c2).symm.trans hf
      refine lv_iload_n hx hb dX3_lowestClear_23 rfl (lv_at hl 1 rfl) ?_
      exact gw_reti F hW hf dX3_lowestClear_24
    · replace hf := (if_pos c2).symm.trans hf
      refine lv_iinc (v := (x1 + (1 : Int32))) (lv' := [(1, .int (x1 + (1 : Int32))), (0, .int x0)]) hx hb dX3_lowestClear_17 hl (k := 1) rfl rfl (by decide) rfl (fun ls hl => ?_)
      refine lv_goto (tgt := 2) hx hb dX3_lowestClear_20 (by decide) ?_
      exact hk2 _ _ hf _ _ _ (lv_sub hl [1, 0] rfl) hW
set_option maxHeartbeats 4000000 in
set_option maxRecDepth 100000 in
theorem wXX3_lowestClear_0 {p : Program} {l : Launch} {e : Env} {s : State} {m : MethodId} {args : Array Value} {below : List Frame} {meth : Method} {c : Code} {A : Nat → Prop} {K : KX} (F : fx_ p s m args meth c cX3_lowestClear 2 (some .int) RX3 wsX3_lowestClear) (x0 : Int32) (σ : XS) (o : (Int32 × XS)) (hf : fXX3_lowestClear_0 (kn K) x0 σ = some o) (H : Heap) (locs : List Loc) (ls : Array Slot) (hl : lv_has ls 2 [(0, .int x0)]) (hW : gw_ (kD K) vwCl (tyX K) (wX K) A s σ H locs) : W p l e rXX3_lowestClear s m args below meth c H locs 0 0 (MQ below (gw_Qi (kD K) vwCl (tyX K) (wX K) A o) args s rXX3_lowestClear.cells rXX3_lowestClear.slots A) (F0 m 0 ls []) := by
  have hx := F.1
  have hb := F.2.1
  have hml := F.2.2.2.1
  have hown := F.2.2.2.2.1
  have hts := F.2.2.2.2.2.1
  have hG : ∀ x ∈ gT, x.before args s = true := fun x h => hts x (List.mem_cons_of_mem _ h)
  unfold fXX3_lowestClear_0 at hf
  refine lv_iconst (v := (0 : Int32)) hx hb dX3_lowestClear_0 (by decide) ?_
  refine lv_istore_n (lv' := [(1, .int (0 : Int32)), (0, .int x0)]) hx hb dX3_lowestClear_1 rfl hl (by decide) rfl (fun ls hl => ?_)
  exact lfix_ind (P := PXX3_lowestClear_2 p l e s m args below meth c A K) (fun k2 hk2 t o hf => wXX3_lowestClear_2 F hk2 t.1 t.2.1 t.2.2 o hf) FU _ _ hf _ _ _ (lv_sub hl [1, 0] rfl) hW
set_option maxHeartbeats 4000000 in
set_option maxRecDepth 100000 in
theorem mXX3_lowestClear {l : Launch} {K : KX} {σ : XS} {x0 : Int32} {o : (Int32 × XS)} (hf : fXX3_lowestClear (kn K) x0 σ = some o) : gw_Mi l (kD K) vwCl (tyX K) (wX K) yX3_lowestClear wsX3_lowestClear rXX3_lowestClear [.int x0] σ o := by
  intro sz
  refine gw_body (cc := cX3_lowestClear) (maxL := 2) (yret := some .int) (by decide +kernel) rfl ?_ (Nat.le_of_ble_eq_true rfl)
  intro p e s m below meth c F hsz hW ls hl
  exact wXX3_lowestClear_0 F x0 σ o hf s.heap [] ls hl hW
abbrev rXX3_mark_4 : Room := { frames := 1, cells := 0, slots := 0, locals := 22 }
def PXX3_mark_4_113 (p : Program) (l : Launch) (e : Env) (s : State) (m : MethodId) (args : Array Value) (below : List Frame) (meth : Method) (c : Code) (A : Nat → Prop) (K : KX) (t : (Int32 × Int32 × Int32 × XS)) (o : XS) : Prop := ∀ (H : Heap) (locs : List Loc) (ls : Array Slot), lv_has ls 11 [(0, .ref (ka K 4)), (3, .int t.1), (7, .int t.2.1), (8, .int t.2.2.1)] → gw_ (kD K) vwCl (tyX K) (wX K) A s t.2.2.2 H locs → W p l e rXX3_mark_4 s m args below meth c H locs 0 0 (MQ below (gw_Qv (kD K) vwCl (tyX K) (wX K) A o) args s rXX3_mark_4.cells rXX3_mark_4.slots A) (F0 m 113 ls [])
set_option maxHeartbeats 4000000 in
set_option maxRecDepth 100000 in
theorem wXX3_mark_4_113 {p : Program} {l : Launch} {e : Env} {s : State} {m : MethodId} {args : Array Value} {below : List Frame} {meth : Method} {c : Code} {A : Nat → Prop} {K : KX} (F : fx_ p s m args meth c cX3_mark 11 none RX3 wsX3_mark) {k113 : (Int32 × Int32 × Int32 × XS) → Option XS} (hk113 : ∀ t o, k113 t = some o → PXX3_mark_4_113 p l e s m args below meth c A K t o) (x3 : Int32) (x7 : Int32) (x8 : Int32) (σ : XS) (o : XS) (hf : fXX3_mark_4_113 (kn K) k113 x3 x7 x8 σ = some o) (H : Heap) (locs : List Loc) (ls : Array Slot) (hl : lv_has ls 11 [(0, .ref (ka K 4)), (3, .int x3), (7, .int x7), (8, .int x8)]) (hW : gw_ (kD K) vwCl (tyX K) (wX K) A s σ H locs) : W p l e rXX3_mark_4 s m args below meth c H locs 0 0 (MQ below (gw_Qv (kD K) vwCl (tyX K) (wX K) A o) args s rXX3_mark_4.cells rXX3_mark_4.slots A) (F0 m 113 ls []) := by
  have hx := F.1
  have hb := F.2.1
  have hml := F.2.2.2.1
  have hown := F.2.2.2.2.1
  have hts := F.2.2.2.2.2.1
  have hG : ∀ x ∈ gT, x.before args s = true := fun x h => hts x (List.mem_cons_of_mem _ h)
  unfold fXX3_mark_4_113 at hf
  refine lv_iload hx hb dX3_mark_113 (lv_at hl 3 rfl) ?_
  refine lv_aload_n hx hb dX3_mark_115 rfl (lv_at hl 0 rfl) ?_
  refine gw_get (v := .ref (ka K 3)) F inc_X3 hW 4 3 1 (aX_4 K σ) rfl (by decide) (hG _ q_1_84) (fun _ h9 => h9) rfl dX3_mark_116 ?_
  obtain ⟨o21, h22, hf⟩ := gw_bind hf
  refine gw_Vi (As := []) (mc' := 0) (ms' := 0) F hW (mXX2_groups_3 h22) (cwV 0 hts (gT_V q_4_216 q_2_74 q_2_75 q_1_4 q_2_76) rfl rfl rfl hdX2_groups ⟨Nat.le_of_ble_eq_true rfl, Nat.le_of_ble_eq_true rfl⟩) 3 2 (aX_3 K σ) rfl rfl hl.1 rfl (Nat.le_of_ble_eq_true rfl) dX3_mark_119 ⟨Nat.le_of_ble_eq_true rfl, Nat.le_of_ble_eq_true rfl⟩ rfl rfl (fun H locs hW => ?_)
  refine lv_icmp_ge (tgt := 212) hx hb dX3_mark_122 (by decide) (fun c24 => ?_) (fun c24 => ?_)
  · replace hf := (if_pos c24).symm.trans hf
    exact gw_retv F hW hf dX3_mark_212
  · replace hf := (if_neg c24).symm.trans hf
    refine lv_aload_n hx hb dX3_mark_125 rfl (lv_at hl 0 rfl) ?_
    refine gw_get (v := .ref (ka K 3)) F inc_X3 hW 4 3 1 (aX_4 K o21.2) rfl (by decide) (hG _ q_1_84) (fun _ h9 => h9) rfl dX3_mark_126 ?_
    refine lv_iload hx hb dX3_mark_129 (lv_at hl 3 rfl) ?_
    refine lv_iconst (v := (0 : Int32)) hx hb dX3_mark_131 (by decide) ?_
    obtain ⟨o25, h26, hf⟩ := gw_bind hf
    refine gw_Vi (As := [.int x8, .int (0 : Int32)]) (mc' := 0) (ms' := 0) F hW (mXX2_partAt_3 h26) (cwV 2 hts (gT_V q_2_51 q_2_52 q_2_53 q_1_4 q_2_54) rfl rfl rfl hdX2_partAt ⟨Nat.le_of_ble_eq_true rfl, Nat.le_of_ble_eq_true rfl⟩) 3 2 (aX_3 K o21.2) rfl rfl hl.1 rfl (Nat.le_of_ble_eq_true rfl) dX3_mark_132 ⟨Nat.le_of_ble_eq_true rfl, Nat.le_of_ble_eq_true rfl⟩ rfl rfl (fun H locs hW => ?_)
    refine lv_aload_n hx hb dX3_mark_135 rfl (lv_at hl 0 rfl) ?_
    refine gw_get (v := .int (12 : Int32)) F inc_X3 hW 4 3 3 (aX_4 K o25.2) rfl (by decide) (hG _ q_1_86) (fun _ h9 => h9) rfl dX3_mark_136 ?_
    refine lv_iadd hx hb dX3_mark_139 ?_
    refine lv_istore (lv' := [(9, .int (o25.1 + (12 : Int32))), (0, .ref (ka K 4)), (3, .int x3), (7, .int x7), (8, .int x8)]) hx hb dX3_mark_140 hl (by decide) rfl (fun ls hl => ?_)
    refine lv_aload_n hx hb dX3_mark_142 rfl (lv_at hl 1 rfl) ?_
    refine gw_get (v := .ref (ka K 3)) F inc_X3 hW 4 3 1 (aX_4 K o25.2) rfl (by decide) (hG _ q_1_84) (fun _ h9 => h9) rfl dX3_mark_143 ?_
    refine lv_iload hx hb dX3_mark_146 (lv_at hl 4 rfl) ?_
    refine lv_iconst (v := (1 : Int32)) hx hb dX3_mark_148 (by decide) ?_
    obtain ⟨o28, h29, hf⟩ := gw_bind hf
    refine gw_Vi (As := [.int x8, .int (1 : Int32)]) (mc' := 0) (ms' := 0) F hW (mXX2_partAt_3 h29) (cwV 2 hts (gT_V q_2_51 q_2_52 q_2_53 q_1_4 q_2_54) rfl rfl rfl hdX2_partAt ⟨Nat.le_of_ble_eq_true rfl, Nat.le_of_ble_eq_true rfl⟩) 3 2 (aX_3 K o25.2) rfl rfl hl.1 rfl (Nat.le_of_ble_eq_true rfl) dX3_mark_149 ⟨Nat.le_of_ble_eq_true rfl, Nat.le_of_ble_eq_true rfl⟩ rfl rfl (fun H locs hW => ?_)
    refine lv_bipush (v := (32 : Int32)) hx hb dX3_mark_152 (by decide) ?_
    refine lv_iload_n hx hb dX3_mark_154 rfl (lv_at hl 2 rfl) ?_
    refine lv_imul hx hb dX3_mark_155 ?_
    refine lv_iadd hx hb dX3_mark_156 ?_
    refine lv_aload_n hx hb dX3_mark_157 rfl (lv_at hl 1 rfl) ?_
    refine gw_get (v := .int (12 : Int32)) F inc_X3 hW 4 3 4 (aX_4 K o28.2) rfl (by decide) (hG _ q_1_87) (fun _ h9 => h9) rfl dX3_mark_158 ?_
    refine lv_iadd hx hb dX3_mark_161 ?_
    refine lv_istore (lv' := [(10, .int ((o28.1 + ((32 : Int32) * x3)) + (12 : Int32))), (9, .int (o25.1 + (12 : Int32))), (0, .ref (ka K 4)), (3, .int x3), (7, .int x7), (8, .int x8)]) hx hb dX3_mark_162 hl (by decide) rfl (fun ls hl => ?_)
    refine lv_aload_n hx hb dX3_mark_164 rfl (lv_at hl 2 rfl) ?_
    refine gw_get (v := .ref (ka K 1)) F inc_X3 hW 4 3 0 (aX_4 K o28.2) rfl (by decide) (hG _ q_1_83) (fun _ h9 => h9) rfl dX3_mark_165 ?_
    refine lv_iload hx hb dX3_mark_168 (lv_at hl 1 rfl) ?_
    refine lv_aload_n hx hb dX3_mark_170 rfl (lv_at hl 2 rfl) ?_
    refine gw_get (v := .ref (ka K 1)) F inc_X3 hW 4 3 0 (aX_4 K o28.2) rfl (by decide) (hG _ q_1_83) (fun _ h9 => h9) rfl dX3_mark_171 ?_
    refine lv_iload hx hb dX3_mark_174 (lv_at hl 1 rfl) ?_
    obtain ⟨o31, h32, hf⟩ := gw_bind hf
    refine gw_Vi (As := [.int (o25.1 + (12 : Int32))]) (mc' := 0) (ms' := 0) F hW (mXX1_get4_1 h32) (cwV 1 hts (gT_V q_4_188 q_2_114 q_2_115 q_1_3 q_2_116) rfl rfl rfl hdX1_get4 ⟨Nat.le_of_ble_eq_true rfl, Nat.le_of_ble_eq_true rfl⟩) 1 1 (aX_1 K o28.2) rfl rfl hl.1 rfl (Nat.le_of_ble_eq_true rfl) dX3_mark_176 ⟨Nat.le_of_ble_eq_true rfl, Nat.le_of_ble_eq_true rfl⟩ rfl rfl (fun H locs hW => ?_)
    refine lv_iload hx hb dX3_mark_179 (lv_at hl 4 rfl) ?_
    refine lv_iadd hx hb dX3_mark_181 ?_
    obtain ⟨o34, h35, hf⟩ := gw_bind hf
    refine gw_Vv (As := [.int (o25.1 + (12 : Int32)), .int (o31.1 + x7)]) (mc' := 0) (ms' := 0) F hW (mXX1_put4_1 h35) (cwV 2 hts (gT_V q_5_4 q_4_156 q_4_157 q_1_3 q_4_158) rfl rfl rfl hdX1_put4 ⟨Nat.le_of_ble_eq_true rfl, Nat.le_of_ble_eq_true rfl⟩) 1 1 (aX_1 K o31.2) rfl rfl hl.1 rfl (Nat.le_of_ble_eq_true rfl) dX3_mark_182 ⟨Nat.le_of_ble_eq_true rfl, Nat.le_of_ble_eq_true rfl⟩ rfl rfl (fun H locs hW => ?_)
    refine lv_aload_n hx hb dX3_mark_185 rfl (lv_at hl 2 rfl) ?_
    refine gw_get (v := .ref (ka K 1)) F inc_X3 hW 4 3 0 (aX_4 K o34) rfl (by decide) (hG _ q_1_83) (fun _ h9 => h9) rfl dX3_mark_186 ?_
    refine lv_iload hx hb dX3_mark_189 (lv_at hl 0 rfl) ?_
    refine lv_aload_n hx hb dX3_mark_191 rfl (lv_at hl 2 rfl) ?_
    refine gw_get (v := .ref (ka K 1)) F inc_X3 hW 4 3 0 (aX_4 K o34) rfl (by decide) (hG _ q_1_83) (fun _ h9 => h9) rfl dX3_mark_192 ?_
    refine lv_iload hx hb dX3_mark_195 (lv_at hl 0 rfl) ?_
    obtain ⟨o37, h38, hf⟩ := gw_bind hf
    refine gw_Vi (As := [.int ((o28.1 + ((32 : Int32) * x3)) + (12 : Int32))]) (mc' := 0) (ms' := 0) F hW (mXX1_get2_1 h38) (cwV 1 hts (gT_V q_5_5 q_2_110 q_2_111 q_1_3 q_2_112) rfl rfl rfl hdX1_get2 ⟨Nat.le_of_ble_eq_true rfl, Nat.le_of_ble_eq_true rfl⟩) 1 1 (aX_1 K o34) rfl rfl hl.1 rfl (Nat.le_of_ble_eq_true rfl) dX3_mark_197 ⟨Nat.le_of_ble_eq_true rfl, Nat.le_of_ble_eq_true rfl⟩ rfl rfl (fun H locs hW => ?_)
    refine lv_iload hx hb dX3_mark_200 (lv_at hl 4 rfl) ?_
    refine lv_iadd hx hb dX3_mark_202 ?_
    obtain ⟨o40, h41, hf⟩ := gw_bind hf
    refine gw_Vv (As := [.int ((o28.1 + ((32 : Int32) * x3)) + (12 : Int32)), .int (o37.1 + x7)]) (mc' := 0) (ms' := 0) F hW (mXX1_put2_1 h41) (cwV 2 hts (gT_V q_5_6 q_4_160 q_4_161 q_1_3 q_4_162) rfl rfl rfl hdX1_put2 ⟨Nat.le_of_ble_eq_true rfl, Nat.le_of_ble_eq_true rfl⟩) 1 1 (aX_1 K o37.2) rfl rfl hl.1 rfl (Nat.le_of_ble_eq_true rfl) dX3_mark_203 ⟨Nat.le_of_ble_eq_true rfl, Nat.le_of_ble_eq_true rfl⟩ rfl rfl (fun H locs hW => ?_)
    refine lv_iinc (v := (x8 + (1 : Int32))) (lv' := [(8, .int (x8 + (1 : Int32))), (10, .int ((o28.1 + ((32 : Int32) * x3)) + (12 : Int32))), (9, .int (o25.1 + (12 : Int32))), (0, .ref (ka K 4)), (3, .int x3), (7, .int x7)]) hx hb dX3_mark_206 hl (k := 5) rfl rfl (by decide) rfl (fun ls hl => ?_)
    refine lv_goto (tgt := 113) hx hb dX3_mark_209 (by decide) ?_
    exact hk113 _ _ hf _ _ _ (lv_sub hl [3, 4, 5, 0] rfl) hW
set_option maxHeartbeats 4000000 in
set_option maxRecDepth 100000 in
theorem wXX3_mark_4_108 {p : Program} {l : Launch} {e : Env} {s : State} {m : MethodId} {args : Array Value} {below : List Frame} {meth : Method} {c : Code} {A : Nat → Prop} {K : KX} (F : fx_ p s m args meth c cX3_mark 11 none RX3 wsX3_mark) (x3 : Int32) (y0 : Int32) (σ : XS) (o : XS) (hf : fXX3_mark_4_108 (kn K) x3 y0 σ = some o) (H : Heap) (locs : List Loc) (ls : Array Slot) (hl : lv_has ls 11 [(0, .ref (ka K 4)), (3, .int x3)]) (hW : gw_ (kD K) vwCl (tyX K) (wX K) A s σ H locs) : W p l e rXX3_mark_4 s m args below meth c H locs 0 0 (MQ below (gw_Qv (kD K) vwCl (tyX K) (wX K) A o) args s rXX3_mark_4.cells rXX3_mark_4.slots A) (F0 m 108 ls [.int y0]) := by
  have hx := F.1
  have hb := F.2.1
  have hml := F.2.2.2.1
  have hown := F.2.2.2.2.1
  have hts := F.2.2.2.2.2.1
  have hG : ∀ x ∈ gT, x.before args s = true := fun x h => hts x (List.mem_cons_of_mem _ h)
  unfold fXX3_mark_4_108 at hf
  refine lv_istore (lv' := [(7, .int y0), (0, .ref (ka K 4)), (3, .int x3)]) hx hb dX3_mark_108 hl (by decide) rfl (fun ls hl => ?_)
  refine lv_iconst (v := (0 : Int32)) hx hb dX3_mark_110 (by decide) ?_
  refine lv_istore (lv' := [(8, .int (0 : Int32)), (7, .int y0), (0, .ref (ka K 4)), (3, .int x3)]) hx hb dX3_mark_111 hl (by decide) rfl (fun ls hl => ?_)
  exact lfix_ind (P := PXX3_mark_4_113 p l e s m args below meth c A K) (fun k113 hk113 t o hf => wXX3_mark_4_113 F hk113 t.1 t.2.1 t.2.2.1 t.2.2.2 o hf) FU _ _ hf _ _ _ (lv_sub hl [2, 3, 1, 0] rfl) hW
set_option maxHeartbeats 4000000 in
set_option maxRecDepth 100000 in
theorem wXX3_mark_4_96 {p : Program} {l : Launch} {e : Env} {s : State} {m : MethodId} {args : Array Value} {below : List Frame} {meth : Method} {c : Code} {A : Nat → Prop} {K : KX} (F : fx_ p s m args meth c cX3_mark 11 none RX3 wsX3_mark) (x2 : Int32) (x3 : Int32) (y0 : Int32) (y1 : Int32) (σ : XS) (o : XS) (hf : fXX3_mark_4_96 (kn K) x2 x3 y0 y1 σ = some o) (H : Heap) (locs : List Loc) (ls : Array Slot) (hl : lv_has ls 11 [(0, .ref (ka K 4)), (2, .int x2), (3, .int x3)]) (hW : gw_ (kD K) vwCl (tyX K) (wX K) A s σ H locs) : W p l e rXX3_mark_4 s m args below meth c H locs 0 0 (MQ below (gw_Qv (kD K) vwCl (tyX K) (wX K) A o) args s rXX3_mark_4.cells rXX3_mark_4.slots A) (F0 m 96 ls [.int y0, .int y1, .ref (ka K 1)]) := by
  have hx := F.1
  have hb := F.2.1
  have hml := F.2.2.2.1
  have hown := F.2.2.2.2.1
  have hts := F.2.2.2.2.2.1
  have hG : ∀ x ∈ gT, x.before args s = true := fun x h => hts x (List.mem_cons_of_mem _ h)
  unfold fXX3_mark_4_96 at hf
  obtain ⟨o17, h18, hf⟩ := gw_bind hf
  refine gw_Vv (As := [.int y1, .int y0]) (mc' := 0) (ms' := 0) F hW (mXX1_put_1 h18) (cwV 2 hts (gT_V q_4_218 q_4_219 q_4_220 q_1_3 q_4_221) rfl rfl rfl hdX1_put ⟨Nat.le_of_ble_eq_true rfl, Nat.le_of_ble_eq_true rfl⟩) 1 1 (aX_1 K σ) rfl rfl hl.1 rfl (Nat.le_of_ble_eq_true rfl) dX3_mark_96 ⟨Nat.le_of_ble_eq_true rfl, Nat.le_of_ble_eq_true rfl⟩ rfl rfl (fun H locs hW => ?_)
  refine lv_iload_n hx hb dX3_mark_99 rfl (lv_at hl 1 rfl) ?_
  refine lv_if_eq (tgt := 107) hx hb dX3_mark_100 (by decide) (fun c20 => ?_) (fun c20 => ?_)
  · replace hf := (if_pos c20).symm.trans hf
    refine lv_iconst (v := (1 : Int32)) hx hb dX3_mark_107 (by decide) ?_
    exact wXX3_mark_4_108 F x3 (1 : Int32) _ _ hf _ _ _ (lv_sub hl [0, 2] rfl) hW
  · replace hf := (if_neg c20).symm.trans hf
    refine lv_iconst (v := (-1 : Int32)) hx hb dX3_mark_103 (by decide) ?_
    refine lv_goto (tgt := 108) hx hb dX3_mark_104 (by decide) ?_
    exact wXX3_mark_4_108 F x3 (-1 : Int32) _ _ hf _ _ _ (lv_sub hl [0, 2] rfl) hW
set_option maxHeartbeats 4000000 in
set_option maxRecDepth 100000 in
theorem wXX3_mark_4_57 {p : Program} {l : Launch} {e : Env} {s : State} {m : MethodId} {args : Array Value} {below : List Frame} {meth : Method} {c : Code} {A : Nat → Prop} {K : KX} (F : fx_ p s m args meth c cX3_mark 11 none RX3 wsX3_mark) (x2 : Int32) (x3 : Int32) (x5 : Int32) (x6 : Int32) (σ : XS) (o : XS) (hf : fXX3_mark_4_57 (kn K) x2 x3 x5 x6 σ = some o) (H : Heap) (locs : List Loc) (ls : Array Slot) (hl : lv_has ls 11 [(0, .ref (ka K 4)), (2, .int x2), (3, .int x3), (5, .int x5), (6, .int x6)]) (hW : gw_ (kD K) vwCl (tyX K) (wX K) A s σ H locs) : W p l e rXX3_mark_4 s m args below meth c H locs 0 0 (MQ below (gw_Qv (kD K) vwCl (tyX K) (wX K) A o) args s rXX3_mark_4.cells rXX3_mark_4.slots A) (F0 m 57 ls []) := by
  have hx := F.1
  have hb := F.2.1
  have hml := F.2.2.2.1
  have hown := F.2.2.2.2.1
  have hts := F.2.2.2.2.2.1
  have hG : ∀ x ∈ gT, x.before args s = true := fun x h => hts x (List.mem_cons_of_mem _ h)
  unfold fXX3_mark_4_57 at hf
  refine lv_aload_n hx hb dX3_mark_57 rfl (lv_at hl 0 rfl) ?_
  refine gw_get (v := .ref (ka K 1)) F inc_X3 hW 4 3 0 (aX_4 K σ) rfl (by decide) (hG _ q_1_83) (fun _ h9 => h9) rfl dX3_mark_58 ?_
  refine lv_iload hx hb dX3_mark_61 (lv_at hl 3 rfl) ?_
  refine lv_iload_n hx hb dX3_mark_63 rfl (lv_at hl 1 rfl) ?_
  refine lv_if_eq (tgt := 82) hx hb dX3_mark_64 (by decide) (fun c13 => ?_) (fun c13 => ?_)
  · replace hf := (if_pos c13).symm.trans hf
    refine lv_aload_n hx hb dX3_mark_82 rfl (lv_at hl 0 rfl) ?_
    refine gw_get (v := .ref (ka K 1)) F inc_X3 hW 4 3 0 (aX_4 K σ) rfl (by decide) (hG _ q_1_83) (fun _ h9 => h9) rfl dX3_mark_83 ?_
    refine lv_iload hx hb dX3_mark_86 (lv_at hl 3 rfl) ?_
    obtain ⟨o14, h15, hf⟩ := gw_bind hf
    refine gw_Vi (As := [.int x5]) (mc' := 0) (ms' := 0) F hW (mXX1_get_1 h15) (cwV 1 hts (gT_V q_2_55 q_2_56 q_2_57 q_1_3 q_2_58) rfl rfl rfl hdX1_get ⟨Nat.le_of_ble_eq_true rfl, Nat.le_of_ble_eq_true rfl⟩) 1 1 (aX_1 K σ) rfl rfl hl.1 rfl (Nat.le_of_ble_eq_true rfl) dX3_mark_88 ⟨Nat.le_of_ble_eq_true rfl, Nat.le_of_ble_eq_true rfl⟩ rfl rfl (fun H locs hW => ?_)
    refine lv_iload hx hb dX3_mark_91 (lv_at hl 4 rfl) ?_
    refine lv_iconst (v := (-1 : Int32)) hx hb dX3_mark_93 (by decide) ?_
    refine lv_ixor hx hb dX3_mark_94 ?_
    refine lv_iand hx hb dX3_mark_95 ?_
    exact wXX3_mark_4_96 F x2 x3 (o14.1 &&& (x6 ^^^ (-1 : Int32))) x5 _ _ hf _ _ _ (lv_sub hl [0, 1, 2] rfl) hW
  · replace hf := (if_neg c13).symm.trans hf
    refine lv_aload_n hx hb dX3_mark_67 rfl (lv_at hl 0 rfl) ?_
    refine gw_get (v := .ref (ka K 1)) F inc_X3 hW 4 3 0 (aX_4 K σ) rfl (by decide) (hG _ q_1_83) (fun _ h9 => h9) rfl dX3_mark_68 ?_
    refine lv_iload hx hb dX3_mark_71 (lv_at hl 3 rfl) ?_
    obtain ⟨o43, h44, hf⟩ := gw_bind hf
    refine gw_Vi (As := [.int x5]) (mc' := 0) (ms' := 0) F hW (mXX1_get_1 h44) (cwV 1 hts (gT_V q_2_55 q_2_56 q_2_57 q_1_3 q_2_58) rfl rfl rfl hdX1_get ⟨Nat.le_of_ble_eq_true rfl, Nat.le_of_ble_eq_true rfl⟩) 1 1 (aX_1 K σ) rfl rfl hl.1 rfl (Nat.le_of_ble_eq_true rfl) dX3_mark_73 ⟨Nat.le_of_ble_eq_true rfl, Nat.le_of_ble_eq_true rfl⟩ rfl rfl (fun H locs hW => ?_)
    refine lv_iload hx hb dX3_mark_76 (lv_at hl 4 rfl) ?_
    refine lv_ior hx hb dX3_mark_78 ?_
    refine lv_goto (tgt := 96) hx hb dX3_mark_79 (by decide) ?_
    exact wXX3_mark_4_96 F x2 x3 (o43.1 ||| x6) x5 _ _ hf _ _ _ (lv_sub hl [0, 1, 2] rfl) hW
set_option maxHeartbeats 4000000 in
set_option maxRecDepth 100000 in
theorem wXX3_mark_4_0 {p : Program} {l : Launch} {e : Env} {s : State} {m : MethodId} {args : Array Value} {below : List Frame} {meth : Method} {c : Code} {A : Nat → Prop} {K : KX} (F : fx_ p s m args meth c cX3_mark 11 none RX3 wsX3_mark) (x1 : Int32) (x2 : Int32) (σ : XS) (o : XS) (hf : fXX3_mark_4_0 (kn K) x1 x2 σ = some o) (H : Heap) (locs : List Loc) (ls : Array Slot) (hl : lv_has ls 11 [(0, .ref (ka K 4)), (1, .int x1), (2, .int x2)]) (hW : gw_ (kD K) vwCl (tyX K) (wX K) A s σ H locs) : W p l e rXX3_mark_4 s m args below meth c H locs 0 0 (MQ below (gw_Qv (kD K) vwCl (tyX K) (wX K) A o) args s rXX3_mark_4.cells rXX3_mark_4.slots A) (F0 m 0 ls []) := by
  have hx := F.1
  have hb := F.2.1
  have hml := F.2.2.2.1
  have hown := F.2.2.2.2.1
  have hts := F.2.2.2.2.2.1
  have hG : ∀ x ∈ gT, x.before args s = true := fun x h => hts x (List.mem_cons_of_mem _ h)
  unfold fXX3_mark_4_0 at hf
  refine lv_aload_n hx hb dX3_mark_0 rfl (lv_at hl 0 rfl) ?_
  refine gw_get (v := .int (σ.1 5)) F inc_X3 hW 4 3 5 (aX_4 K σ) rfl (by decide) (hG _ q_1_88) (fun _ h9 => h9) rfl dX3_mark_1 ?_
  refine lv_iconst (v := (1 : Int32)) hx hb dX3_mark_4 (by decide) ?_
  refine lv_icmp_ge (tgt := 9) hx hb dX3_mark_5 (by decide) (fun c7 => ?_) (fun c7 => ?_)
  · replace hf := (if_pos c7).symm.trans hf
    refine lv_iload_n hx hb dX3_mark_9 rfl (lv_at hl 1 rfl) ?_
    refine lv_iconst (v := (1 : Int32)) hx hb dX3_mark_10 (by decide) ?_
    refine lv_isub hx hb dX3_mark_11 ?_
    refine lv_aload_n hx hb dX3_mark_12 rfl (lv_at hl 0 rfl) ?_
    refine gw_get (v := .int (σ.1 5)) F inc_X3 hW 4 3 5 (aX_4 K σ) rfl (by decide) (hG _ q_1_88) (fun _ h9 => h9) rfl dX3_mark_13 ?_
    rcases Decidable.em ((σ.1 5) = 0) with c8 | c8
    · replace hf := (if_pos c8).symm.trans hf
      exact absurd hf (by simp)
    · replace hf := (if_neg c8).symm.trans hf
      refine lv_idiv hx hb dX3_mark_16 c8 ?_
      refine lv_istore_n (lv' := [(3, .int ((x1 - (1 : Int32)) / (σ.1 5))), (0, .ref (ka K 4)), (1, .int x1), (2, .int x2)]) hx hb dX3_mark_17 rfl hl (by decide) rfl (fun ls hl => ?_)
      refine lv_iload_n hx hb dX3_mark_18 rfl (lv_at hl 2 rfl) ?_
      refine lv_iconst (v := (1 : Int32)) hx hb dX3_mark_19 (by decide) ?_
      refine lv_isub hx hb dX3_mark_20 ?_
      refine lv_aload_n hx hb dX3_mark_21 rfl (lv_at hl 1 rfl) ?_
      refine gw_get (v := .int (σ.1 5)) F inc_X3 hW 4 3 5 (aX_4 K σ) rfl (by decide) (hG _ q_1_88) (fun _ h9 => h9) rfl dX3_mark_22 ?_
      rcases Decidable.em ((σ.1 5) = 0) with c9 | c9
      · replace hf := (if_pos c9).symm.trans hf
        exact absurd hf (by simp)
      · replace hf := (if_neg c9).symm.trans hf
        refine lv_irem hx hb dX3_mark_25 c9 ?_
        refine lv_istore (lv' := [(4, .int ((x1 - (1 : Int32)) - (x1 - (1 : Int32)) / (σ.1 5) * (σ.1 5))), (3, .int ((x1 - (1 : Int32)) / (σ.1 5))), (0, .ref (ka K 4)), (1, .int x1), (2, .int x2)]) hx hb dX3_mark_26 hl (by decide) rfl (fun ls hl => ?_)
        refine lv_aload_n hx hb dX3_mark_28 rfl (lv_at hl 2 rfl) ?_
        refine gw_get (v := .ref (ka K 3)) F inc_X3 hW 4 3 1 (aX_4 K σ) rfl (by decide) (hG _ q_1_84) (fun _ h9 => h9) rfl dX3_mark_29 ?_
        refine lv_iload_n hx hb dX3_mark_32 rfl (lv_at hl 1 rfl) ?_
        refine lv_aload_n hx hb dX3_mark_33 rfl (lv_at hl 2 rfl) ?_
        refine gw_get (v := .int (2 : Int32)) F inc_X3 hW 4 3 2 (aX_4 K σ) rfl (by decide) (hG _ q_1_85) (fun _ h9 => h9) rfl dX3_mark_34 ?_
        obtain ⟨o10, h11, hf⟩ := gw_bind hf
        refine gw_Vi (As := [.int ((x1 - (1 : Int32)) / (σ.1 5)), .int (2 : Int32)]) (mc' := 0) (ms' := 0) F hW (mXX2_partAt_3 h11) (cwV 2 hts (gT_V q_2_51 q_2_52 q_2_53 q_1_4 q_2_54) rfl rfl rfl hdX2_partAt ⟨Nat.le_of_ble_eq_true rfl, Nat.le_of_ble_eq_true rfl⟩) 3 2 (aX_3 K σ) rfl rfl hl.1 rfl (Nat.le_of_ble_eq_true rfl) dX3_mark_37 ⟨Nat.le_of_ble_eq_true rfl, Nat.le_of_ble_eq_true rfl⟩ rfl rfl (fun H locs hW => ?_)
        refine lv_iload hx hb dX3_mark_40 (lv_at hl 0 rfl) ?_
        refine lv_bipush (v := (8 : Int32)) hx hb dX3_mark_42 (by decide) ?_
        refine lv_idiv hx hb dX3_mark_44 (by decide) ?_
        refine lv_iadd hx hb dX3_mark_45 ?_
        refine lv_istore (lv' := [(5, .int (o10.1 + (((x1 - (1 : Int32)) - (x1 - (1 : Int32)) / (σ.1 5) * (σ.1 5)) / (8 : Int32)))), (4, .int ((x1 - (1 : Int32)) - (x1 - (1 : Int32)) / (σ.1 5) * (σ.1 5))), (3, .int ((x1 - (1 : Int32)) / (σ.1 5))), (0, .ref (ka K 4)), (1, .int x1), (2, .int x2)]) hx hb dX3_mark_46 hl (by decide) rfl (fun ls hl => ?_)
        refine lv_iconst (v := (1 : Int32)) hx hb dX3_mark_48 (by decide) ?_
        refine lv_iload hx hb dX3_mark_49 (lv_at hl 1 rfl) ?_
        refine lv_bipush (v := (8 : Int32)) hx hb dX3_mark_51 (by decide) ?_
        refine lv_irem hx hb dX3_mark_53 (by decide) ?_
        refine lv_ishl hx hb dX3_mark_54 ?_
        refine lv_istore (lv' := [(6, .int ((1 : Int32) <<< ((((x1 - (1 : Int32)) - (x1 - (1 : Int32)) / (σ.1 5) * (σ.1 5)) - ((x1 - (1 : Int32)) - (x1 - (1 : Int32)) / (σ.1 5) * (σ.1 5)) / (8 : Int32) * (8 : Int32)) &&& 31))), (5, .int (o10.1 + (((x1 - (1 : Int32)) - (x1 - (1 : Int32)) / (σ.1 5) * (σ.1 5)) / (8 : Int32)))), (4, .int ((x1 - (1 : Int32)) - (x1 - (1 : Int32)) / (σ.1 5) * (σ.1 5))), (3, .int ((x1 - (1 : Int32)) / (σ.1 5))), (0, .ref (ka K 4)), (1, .int x1), (2, .int x2)]) hx hb dX3_mark_55 hl (by decide) rfl (fun ls hl => ?_)
        exact wXX3_mark_4_57 F x2 ((x1 - (1 : Int32)) / (σ.1 5)) (o10.1 + (((x1 - (1 : Int32)) - (x1 - (1 : Int32)) / (σ.1 5) * (σ.1 5)) / (8 : Int32))) ((1 : Int32) <<< ((((x1 - (1 : Int32)) - (x1 - (1 : Int32)) / (σ.1 5) * (σ.1 5)) - ((x1 - (1 : Int32)) - (x1 - (1 : Int32)) / (σ.1 5) * (σ.1 5)) / (8 : Int32) * (8 : Int32)) &&& 31)) _ _ hf _ _ _ (lv_sub hl [4, 6, 3, 1, 0] rfl) hW
  · replace hf := (if_neg c7).symm.trans hf
    exact gw_retv F hW hf dX3_mark_8
set_option maxHeartbeats 4000000 in
set_option maxRecDepth 100000 in
theorem mXX3_mark_4 {l : Launch} {K : KX} {σ : XS} {x1 : Int32} {x2 : Int32} {o : XS} (hf : fXX3_mark_4 (kn K) x1 x2 σ = some o) : gw_Mv l (kD K) vwCl (tyX K) (wX K) yX3_mark wsX3_mark rXX3_mark_4 [.ref (ka K 4), .int x1, .int x2] σ o := by
  intro sz
  refine gw_body (cc := cX3_mark) (maxL := 11) (yret := none) (by decide +kernel) rfl ?_ (Nat.le_of_ble_eq_true rfl)
  intro p e s m below meth c F hsz hW ls hl
  exact wXX3_mark_4_0 F x1 x2 σ o hf s.heap [] ls hl hW
abbrev rXX3_take_4 : Room := { frames := 2, cells := 0, slots := 0, locals := 52 }
def PXX3_take_4_28 (p : Program) (l : Launch) (e : Env) (s : State) (m : MethodId) (args : Array Value) (below : List Frame) (meth : Method) (c : Code) (A : Nat → Prop) (K : KX) (t : (Int32 × Int32 × Int32 × XS)) (o : (Int32 × XS)) : Prop := ∀ (H : Heap) (locs : List Loc) (ls : Array Slot), lv_has ls 5 [(0, .ref (ka K 4)), (1, .int t.1), (2, .int t.2.1), (3, .int t.2.2.1)] → gw_ (kD K) vwCl (tyX K) (wX K) A s t.2.2.2 H locs → W p l e rXX3_take_4 s m args below meth c H locs 0 0 (MQ below (gw_Qi (kD K) vwCl (tyX K) (wX K) A o) args s rXX3_take_4.cells rXX3_take_4.slots A) (F0 m 28 ls [])
def PXX3_take_4_2 (p : Program) (l : Launch) (e : Env) (s : State) (m : MethodId) (args : Array Value) (below : List Frame) (meth : Method) (c : Code) (A : Nat → Prop) (K : KX) (t : (Int32 × XS)) (o : (Int32 × XS)) : Prop := ∀ (H : Heap) (locs : List Loc) (ls : Array Slot), lv_has ls 5 [(0, .ref (ka K 4)), (1, .int t.1)] → gw_ (kD K) vwCl (tyX K) (wX K) A s t.2 H locs → W p l e rXX3_take_4 s m args below meth c H locs 0 0 (MQ below (gw_Qi (kD K) vwCl (tyX K) (wX K) A o) args s rXX3_take_4.cells rXX3_take_4.slots A) (F0 m 2 ls [])
set_option maxHeartbeats 4000000 in
set_option maxRecDepth 100000 in
theorem wXX3_take_4_28 {p : Program} {l : Launch} {e : Env} {s : State} {m : MethodId} {args : Array Value} {below : List Frame} {meth : Method} {c : Code} {A : Nat → Prop} {K : KX} (F : fx_ p s m args meth c cX3_take 5 (some .int) RX3 wsX3_take) {k2 : (Int32 × XS) → Option (Int32 × XS)} (hk2 : ∀ t o, k2 t = some o → PXX3_take_4_2 p l e s m args below meth c A K t o) {k28 : (Int32 × Int32 × Int32 × XS) → Option (Int32 × XS)} (hk28 : ∀ t o, k28 t = some o → PXX3_take_4_28 p l e s m args below meth c A K t o) (x1 : Int32) (x2 : Int32) (x3 : Int32) (σ : XS) (o : (Int32 × XS)) (hf : fXX3_take_4_28 (kn K) k2 k28 x1 x2 x3 σ = some o) (H : Heap) (locs : List Loc) (ls : Array Slot) (hl : lv_has ls 5 [(0, .ref (ka K 4)), (1, .int x1), (2, .int x2), (3, .int x3)]) (hW : gw_ (kD K) vwCl (tyX K) (wX K) A s σ H locs) : W p l e rXX3_take_4 s m args below meth c H locs 0 0 (MQ below (gw_Qi (kD K) vwCl (tyX K) (wX K) A o) args s rXX3_take_4.cells rXX3_take_4.slots A) (F0 m 28 ls []) := by
  have hx := F.1
  have hb := F.2.1
  have hml := F.2.2.2.1
  have hown := F.2.2.2.2.1
  have hts := F.2.2.2.2.2.1
  have hG : ∀ x ∈ gT, x.before args s = true := fun x h => hts x (List.mem_cons_of_mem _ h)
  unfold fXX3_take_4_28 at hf
  refine lv_iload_n hx hb dX3_take_28 rfl (lv_at hl 3 rfl) ?_
  refine lv_aload_n hx hb dX3_take_29 rfl (lv_at hl 0 rfl) ?_
  refine gw_get (v := .int (σ.1 5)) F inc_X3 hW 4 3 5 (aX_4 K σ) rfl (by decide) (hG _ q_1_88) (fun _ h9 => h9) rfl dX3_take_30 ?_
  refine lv_bipush (v := (8 : Int32)) hx hb dX3_take_33 (by decide) ?_
  refine lv_idiv hx hb dX3_take_35 (by decide) ?_
  refine lv_icmp_ge (tgt := 100) hx hb dX3_take_36 (by decide) (fun c8 => ?_) (fun c8 => ?_)
  · replace hf := (if_pos c8).symm.trans hf
    refine lv_iinc (v := (x1 + (1 : Int32))) (lv' := [(1, .int (x1 + (1 : Int32))), (0, .ref (ka K 4)), (2, .int x2), (3, .int x3)]) hx hb dX3_take_100 hl (k := 1) rfl rfl (by decide) rfl (fun ls hl => ?_)
    refine lv_goto (tgt := 2) hx hb dX3_take_103 (by decide) ?_
    exact hk2 _ _ hf _ _ _ (lv_sub hl [1, 0] rfl) hW
  · replace hf := (if_neg c8).symm.trans hf
    refine lv_aload_n hx hb dX3_take_39 rfl (lv_at hl 0 rfl) ?_
    refine gw_get (v := .ref (ka K 1)) F inc_X3 hW 4 3 0 (aX_4 K σ) rfl (by decide) (hG _ q_1_83) (fun _ h9 => h9) rfl dX3_take_40 ?_
    refine lv_iload_n hx hb dX3_take_43 rfl (lv_at hl 2 rfl) ?_
    refine lv_iload_n hx hb dX3_take_44 rfl (lv_at hl 3 rfl) ?_
    refine lv_iadd hx hb dX3_take_45 ?_
    obtain ⟨o9, h10, hf⟩ := gw_bind hf
    refine gw_Vi (As := [.int (x2 + x3)]) (mc' := 0) (ms' := 0) F hW (mXX1_get_1 h10) (cwV 1 hts (gT_V q_2_55 q_2_56 q_2_57 q_1_3 q_2_58) rfl rfl rfl hdX1_get ⟨Nat.le_of_ble_eq_true rfl, Nat.le_of_ble_eq_true rfl⟩) 1 1 (aX_1 K σ) rfl rfl hl.1 rfl (Nat.le_of_ble_eq_true rfl) dX3_take_46 ⟨Nat.le_of_ble_eq_true rfl, Nat.le_of_ble_eq_true rfl⟩ rfl rfl (fun H locs hW => ?_)
    refine lv_sipush (v := (255 : Int32)) hx hb dX3_take_49 (by decide) ?_
    refine lv_icmp_eq (tgt := 94) hx hb dX3_take_52 (by decide) (fun c12 => ?_) (fun c12 => ?_)
    · replace hf := (if_pos c12).symm.trans hf
      refine lv_iinc (v := (x3 + (1 : Int32))) (lv' := [(3, .int (x3 + (1 : Int32))), (0, .ref (ka K 4)), (1, .int x1), (2, .int x2)]) hx hb dX3_take_94 hl (k := 3) rfl rfl (by decide) rfl (fun ls hl => ?_)
      refine lv_goto (tgt := 28) hx hb dX3_take_97 (by decide) ?_
      exact hk28 _ _ hf _ _ _ (lv_sub hl [1, 2, 3, 0] rfl) hW
    · replace hf := (if_neg c12).symm.trans hf
      refine lv_iconst (v := (1 : Int32)) hx hb dX3_take_55 (by decide) ?_
      refine lv_iload_n hx hb dX3_take_56 rfl (lv_at hl 1 rfl) ?_
      refine lv_aload_n hx hb dX3_take_57 rfl (lv_at hl 0 rfl) ?_
      refine gw_get (v := .int (o9.2.1 5)) F inc_X3 hW 4 3 5 (aX_4 K o9.2) rfl (by decide) (hG _ q_1_88) (fun _ h9 => h9) rfl dX3_take_58 ?_
      refine lv_imul hx hb dX3_take_61 ?_
      refine lv_iadd hx hb dX3_take_62 ?_
      refine lv_bipush (v := (8 : Int32)) hx hb dX3_take_63 (by decide) ?_
      refine lv_iload_n hx hb dX3_take_65 rfl (lv_at hl 3 rfl) ?_
      refine lv_imul hx hb dX3_take_66 ?_
      refine lv_iadd hx hb dX3_take_67 ?_
      refine lv_aload_n hx hb dX3_take_68 rfl (lv_at hl 0 rfl) ?_
      refine gw_get (v := .ref (ka K 1)) F inc_X3 hW 4 3 0 (aX_4 K o9.2) rfl (by decide) (hG _ q_1_83) (fun _ h9 => h9) rfl dX3_take_69 ?_
      refine lv_iload_n hx hb dX3_take_72 rfl (lv_at hl 2 rfl) ?_
      refine lv_iload_n hx hb dX3_take_73 rfl (lv_at hl 3 rfl) ?_
      refine lv_iadd hx hb dX3_take_74 ?_
      obtain ⟨o13, h14, hf⟩ := gw_bind hf
      refine gw_Vi (As := [.int (x2 + x3)]) (mc' := 0) (ms' := 0) F hW (mXX1_get_1 h14) (cwV 1 hts (gT_V q_2_55 q_2_56 q_2_57 q_1_3 q_2_58) rfl rfl rfl hdX1_get ⟨Nat.le_of_ble_eq_true rfl, Nat.le_of_ble_eq_true rfl⟩) 1 1 (aX_1 K o9.2) rfl rfl hl.1 rfl (Nat.le_of_ble_eq_true rfl) dX3_take_75 ⟨Nat.le_of_ble_eq_true rfl, Nat.le_of_ble_eq_true rfl⟩ rfl rfl (fun H locs hW => ?_)
      obtain ⟨o16, h17, hf⟩ := gw_bind hf
      refine gw_Si (As := [.int o13.1]) (mc' := 0) (ms' := 0) F hW (mXX3_lowestClear h17) (va_cwS 1 hts (gT_S q_4_237 q_4_238 q_1_5 q_4_239) rfl rfl rfl hdX3_lowestClear.2 ⟨Nat.le_of_ble_eq_true rfl, Nat.le_of_ble_eq_true rfl⟩) rfl hl.1 rfl (Nat.le_of_ble_eq_true rfl) dX3_take_78 ⟨Nat.le_of_ble_eq_true rfl, Nat.le_of_ble_eq_true rfl⟩ rfl rfl (fun H locs hW => ?_)
      refine lv_iadd hx hb dX3_take_81 ?_
      refine lv_istore (lv' := [(4, .int ((((1 : Int32) + (x1 * (o9.2.1 5))) + ((8 : Int32) * x3)) + o16.1)), (0, .ref (ka K 4)), (1, .int x1), (2, .int x2), (3, .int x3)]) hx hb dX3_take_82 hl (by decide) rfl (fun ls hl => ?_)
      refine lv_aload_n hx hb dX3_take_84 rfl (lv_at hl 1 rfl) ?_
      refine lv_iload hx hb dX3_take_85 (lv_at hl 0 rfl) ?_
      refine lv_iconst (v := (1 : Int32)) hx hb dX3_take_87 (by decide) ?_
      obtain ⟨o19, h20, hf⟩ := gw_bind hf
      refine gw_Vv (As := [.int ((((1 : Int32) + (x1 * (o9.2.1 5))) + ((8 : Int32) * x3)) + o16.1), .int (1 : Int32)]) (mc' := 0) (ms' := 0) F hW (mXX3_mark_4 h20) (cwV 2 hts (gT_V q_5_0 q_5_2 qp_23 q_1_5 q_5_3) rfl rfl rfl hdX3_mark ⟨Nat.le_of_ble_eq_true rfl, Nat.le_of_ble_eq_true rfl⟩) 4 3 (aX_4 K o16.2) rfl rfl hl.1 rfl (Nat.le_of_ble_eq_true rfl) dX3_take_88 ⟨Nat.le_of_ble_eq_true rfl, Nat.le_of_ble_eq_true rfl⟩ rfl rfl (fun H locs hW => ?_)
      refine lv_iload hx hb dX3_take_91 (lv_at hl 0 rfl) ?_
      exact gw_reti F hW hf dX3_take_93
set_option maxHeartbeats 4000000 in
set_option maxRecDepth 100000 in
theorem wXX3_take_4_2 {p : Program} {l : Launch} {e : Env} {s : State} {m : MethodId} {args : Array Value} {below : List Frame} {meth : Method} {c : Code} {A : Nat → Prop} {K : KX} (F : fx_ p s m args meth c cX3_take 5 (some .int) RX3 wsX3_take) {k2 : (Int32 × XS) → Option (Int32 × XS)} (hk2 : ∀ t o, k2 t = some o → PXX3_take_4_2 p l e s m args below meth c A K t o) (x1 : Int32) (σ : XS) (o : (Int32 × XS)) (hf : fXX3_take_4_2 (kn K) k2 x1 σ = some o) (H : Heap) (locs : List Loc) (ls : Array Slot) (hl : lv_has ls 5 [(0, .ref (ka K 4)), (1, .int x1)]) (hW : gw_ (kD K) vwCl (tyX K) (wX K) A s σ H locs) : W p l e rXX3_take_4 s m args below meth c H locs 0 0 (MQ below (gw_Qi (kD K) vwCl (tyX K) (wX K) A o) args s rXX3_take_4.cells rXX3_take_4.slots A) (F0 m 2 ls []) := by
  have hx := F.1
  have hb := F.2.1
  have hml := F.2.2.2.1
  have hown := F.2.2.2.2.1
  have hts := F.2.2.2.2.2.1
  have hG : ∀ x ∈ gT, x.before args s = true := fun x h => hts x (List.mem_cons_of_mem _ h)
  unfold fXX3_take_4_2 at hf
  refine lv_iload_n hx hb dX3_take_2 rfl (lv_at hl 1 rfl) ?_
  refine lv_aload_n hx hb dX3_take_3 rfl (lv_at hl 0 rfl) ?_
  refine gw_get (v := .ref (ka K 3)) F inc_X3 hW 4 3 1 (aX_4 K σ) rfl (by decide) (hG _ q_1_84) (fun _ h9 => h9) rfl dX3_take_4 ?_
  obtain ⟨o1, h2, hf⟩ := gw_bind hf
  refine gw_Vi (As := []) (mc' := 0) (ms' := 0) F hW (mXX2_groups_3 h2) (cwV 0 hts (gT_V q_4_216 q_2_74 q_2_75 q_1_4 q_2_76) rfl rfl rfl hdX2_groups ⟨Nat.le_of_ble_eq_true rfl, Nat.le_of_ble_eq_true rfl⟩) 3 2 (aX_3 K σ) rfl rfl hl.1 rfl (Nat.le_of_ble_eq_true rfl) dX3_take_7 ⟨Nat.le_of_ble_eq_true rfl, Nat.le_of_ble_eq_true rfl⟩ rfl rfl (fun H locs hW => ?_)
  refine lv_icmp_ge (tgt := 106) hx hb dX3_take_10 (by decide) (fun c4 => ?_) (fun c4 => ?_)
  · replace hf := (if_pos c4).symm.trans hf
    refine lv_iconst (v := (-1 : Int32)) hx hb dX3_take_106 (by decide) ?_
    exact gw_reti F hW hf dX3_take_107
  · replace hf := (if_neg c4).symm.trans hf
    refine lv_aload_n hx hb dX3_take_13 rfl (lv_at hl 0 rfl) ?_
    refine gw_get (v := .ref (ka K 3)) F inc_X3 hW 4 3 1 (aX_4 K o1.2) rfl (by decide) (hG _ q_1_84) (fun _ h9 => h9) rfl dX3_take_14 ?_
    refine lv_iload_n hx hb dX3_take_17 rfl (lv_at hl 1 rfl) ?_
    refine lv_aload_n hx hb dX3_take_18 rfl (lv_at hl 0 rfl) ?_
    refine gw_get (v := .int (2 : Int32)) F inc_X3 hW 4 3 2 (aX_4 K o1.2) rfl (by decide) (hG _ q_1_85) (fun _ h9 => h9) rfl dX3_take_19 ?_
    obtain ⟨o5, h6, hf⟩ := gw_bind hf
    refine gw_Vi (As := [.int x1, .int (2 : Int32)]) (mc' := 0) (ms' := 0) F hW (mXX2_partAt_3 h6) (cwV 2 hts (gT_V q_2_51 q_2_52 q_2_53 q_1_4 q_2_54) rfl rfl rfl hdX2_partAt ⟨Nat.le_of_ble_eq_true rfl, Nat.le_of_ble_eq_true rfl⟩) 3 2 (aX_3 K o1.2) rfl rfl hl.1 rfl (Nat.le_of_ble_eq_true rfl) dX3_take_22 ⟨Nat.le_of_ble_eq_true rfl, Nat.le_of_ble_eq_true rfl⟩ rfl rfl (fun H locs hW => ?_)
    refine lv_istore_n (lv' := [(2, .int o5.1), (0, .ref (ka K 4)), (1, .int x1)]) hx hb dX3_take_25 rfl hl (by decide) rfl (fun ls hl => ?_)
    refine lv_iconst (v := (0 : Int32)) hx hb dX3_take_26 (by decide) ?_
    refine lv_istore_n (lv' := [(3, .int (0 : Int32)), (2, .int o5.1), (0, .ref (ka K 4)), (1, .int x1)]) hx hb dX3_take_27 rfl hl (by decide) rfl (fun ls hl => ?_)
    exact lfix_ind (P := PXX3_take_4_28 p l e s m args below meth c A K) (fun k28 hk28 t o hf => wXX3_take_4_28 F hk2 hk28 t.1 t.2.1 t.2.2.1 t.2.2.2 o hf) FU _ _ hf _ _ _ (lv_sub hl [2, 3, 1, 0] rfl) hW
set_option maxHeartbeats 4000000 in
set_option maxRecDepth 100000 in
theorem wXX3_take_4_0 {p : Program} {l : Launch} {e : Env} {s : State} {m : MethodId} {args : Array Value} {below : List Frame} {meth : Method} {c : Code} {A : Nat → Prop} {K : KX} (F : fx_ p s m args meth c cX3_take 5 (some .int) RX3 wsX3_take) (σ : XS) (o : (Int32 × XS)) (hf : fXX3_take_4_0 (kn K) σ = some o) (H : Heap) (locs : List Loc) (ls : Array Slot) (hl : lv_has ls 5 [(0, .ref (ka K 4))]) (hW : gw_ (kD K) vwCl (tyX K) (wX K) A s σ H locs) : W p l e rXX3_take_4 s m args below meth c H locs 0 0 (MQ below (gw_Qi (kD K) vwCl (tyX K) (wX K) A o) args s rXX3_take_4.cells rXX3_take_4.slots A) (F0 m 0 ls []) := by
  have hx := F.1
  have hb := F.2.1
  have hml := F.2.2.2.1
  have hown := F.2.2.2.2.1
  have hts := F.2.2.2.2.2.1
  have hG : ∀ x ∈ gT, x.before args s = true := fun x h => hts x (List.mem_cons_of_mem _ h)
  unfold fXX3_take_4_0 at hf
  refine lv_iconst (v := (0 : Int32)) hx hb dX3_take_0 (by decide) ?_
  refine lv_istore_n (lv' := [(1, .int (0 : Int32)), (0, .ref (ka K 4))]) hx hb dX3_take_1 rfl hl (by decide) rfl (fun ls hl => ?_)
  exact lfix_ind (P := PXX3_take_4_2 p l e s m args below meth c A K) (fun k2 hk2 t o hf => wXX3_take_4_2 F hk2 t.1 t.2 o hf) FU _ _ hf _ _ _ (lv_sub hl [1, 0] rfl) hW
set_option maxHeartbeats 4000000 in
set_option maxRecDepth 100000 in
theorem mXX3_take_4 {l : Launch} {K : KX} {σ : XS} {o : (Int32 × XS)} (hf : fXX3_take_4 (kn K) σ = some o) : gw_Mi l (kD K) vwCl (tyX K) (wX K) yX3_take wsX3_take rXX3_take_4 [.ref (ka K 4)] σ o := by
  intro sz
  refine gw_body (cc := cX3_take) (maxL := 5) (yret := some .int) (by decide +kernel) rfl ?_ (Nat.le_of_ble_eq_true rfl)
  intro p e s m below meth c F hsz hW ls hl
  exact wXX3_take_4_0 F σ o hf s.heap [] ls hl hW
abbrev rXX4_gain_6 : Room := { frames := 3, cells := 0, slots := 0, locals := 76 }
set_option maxHeartbeats 4000000 in
set_option maxRecDepth 100000 in
theorem wXX4_gain_6_0 {p : Program} {l : Launch} {e : Env} {s : State} {m : MethodId} {args : Array Value} {below : List Frame} {meth : Method} {c : Code} {A : Nat → Prop} {K : KX} (F : fx_ p s m args meth c cX4_gain 4 none RX4 wsX4_gain) (x1 : Int32) (x2 : Int32) (σ : XS) (o : XS) (hf : fXX4_gain_6_0 (kn K) x1 x2 σ = some o) (H : Heap) (locs : List Loc) (ls : Array Slot) (hl : lv_has ls 4 [(0, .ref (ka K 6)), (1, .int x1), (2, .int x2)]) (hW : gw_ (kD K) vwCl (tyX K) (wX K) A s σ H locs) : W p l e rXX4_gain_6 s m args below meth c H locs 0 0 (MQ below (gw_Qv (kD K) vwCl (tyX K) (wX K) A o) args s rXX4_gain_6.cells rXX4_gain_6.slots A) (F0 m 0 ls []) := by
  have hx := F.1
  have hb := F.2.1
  have hml := F.2.2.2.1
  have hown := F.2.2.2.2.1
  have hts := F.2.2.2.2.2.1
  have hG : ∀ x ∈ gT, x.before args s = true := fun x h => hts x (List.mem_cons_of_mem _ h)
  unfold fXX4_gain_6_0 at hf
  refine lv_aload_n hx hb dX4_gain_0 rfl (lv_at hl 0 rfl) ?_
  refine gw_get (v := .ref (ka K 4)) F inc_X4 hW 6 4 2 (aX_6 K σ) rfl (by decide) (hG _ q_1_110) (fun _ h9 => h9) rfl dX4_gain_1 ?_
  obtain ⟨o1, h2, hf⟩ := gw_bind hf
  refine gw_Vi (As := []) (mc' := 0) (ms' := 0) F hW (mXX3_take_4 h2) (cwV 0 hts (gT_V q_5_36 q_4_234 q_4_235 q_1_5 q_4_236) rfl rfl rfl hdX3_take ⟨Nat.le_of_ble_eq_true rfl, Nat.le_of_ble_eq_true rfl⟩) 4 3 (aX_4 K σ) rfl rfl hl.1 rfl (Nat.le_of_ble_eq_true rfl) dX4_gain_4 ⟨Nat.le_of_ble_eq_true rfl, Nat.le_of_ble_eq_true rfl⟩ rfl rfl (fun H locs hW => ?_)
  refine lv_istore_n (lv' := [(3, .int o1.1), (0, .ref (ka K 6)), (1, .int x1), (2, .int x2)]) hx hb dX4_gain_7 rfl hl (by decide) rfl (fun ls hl => ?_)
  refine lv_iload_n hx hb dX4_gain_8 rfl (lv_at hl 0 rfl) ?_
  refine lv_iconst (v := (-1 : Int32)) hx hb dX4_gain_9 (by decide) ?_
  refine lv_icmp_ne (tgt := 14) hx hb dX4_gain_10 (by decide) (fun c4 => ?_) (fun c4 => ?_)
  · replace hf := (if_neg c4).symm.trans hf
    refine lv_aload_n hx hb dX4_gain_14 rfl (lv_at hl 1 rfl) ?_
    refine gw_get (v := .ref (ka K 1)) F inc_X4 hW 6 4 0 (aX_6 K o1.2) rfl (by decide) (hG _ q_1_108) (fun _ h9 => h9) rfl dX4_gain_15 ?_
    refine lv_iload_n hx hb dX4_gain_18 rfl (lv_at hl 0 rfl) ?_
    refine lv_sipush (v := (1024 : Int32)) hx hb dX4_gain_19 (by decide) ?_
    refine lv_imul hx hb dX4_gain_22 ?_
    refine lv_iload_n hx hb dX4_gain_23 rfl (lv_at hl 0 rfl) ?_
    refine lv_sipush (v := (1024 : Int32)) hx hb dX4_gain_24 (by decide) ?_
    refine lv_imul hx hb dX4_gain_27 ?_
    refine lv_sipush (v := (1024 : Int32)) hx hb dX4_gain_28 (by decide) ?_
    refine lv_iadd hx hb dX4_gain_31 ?_
    refine lv_iconst (v := (0 : Int32)) hx hb dX4_gain_32 (by decide) ?_
    obtain ⟨o5, h6, hf⟩ := gw_bind hf
    refine gw_Vv (As := [.int (o1.1 * (1024 : Int32)), .int ((o1.1 * (1024 : Int32)) + (1024 : Int32)), .int (0 : Int32)]) (mc' := 0) (ms' := 0) F hW (mXX1_fill_1 h6) (cwV 3 hts (gT_V q_5_37 q_3_42 q_3_43 q_1_3 q_3_44) rfl rfl rfl hdX1_fill ⟨Nat.le_of_ble_eq_true rfl, Nat.le_of_ble_eq_true rfl⟩) 1 1 (aX_1 K o1.2) rfl rfl hl.1 rfl (Nat.le_of_ble_eq_true rfl) dX4_gain_33 ⟨Nat.le_of_ble_eq_true rfl, Nat.le_of_ble_eq_true rfl⟩ rfl rfl (fun H locs hW => ?_)
    refine lv_aload_n hx hb dX4_gain_36 rfl (lv_at hl 1 rfl) ?_
    refine gw_get (v := .ref (ka K 1)) F inc_X4 hW 6 4 0 (aX_6 K o5) rfl (by decide) (hG _ q_1_108) (fun _ h9 => h9) rfl dX4_gain_37 ?_
    refine lv_iload_n hx hb dX4_gain_40 rfl (lv_at hl 3 rfl) ?_
    refine lv_iload_n hx hb dX4_gain_41 rfl (lv_at hl 0 rfl) ?_
    obtain ⟨o8, h9, hf⟩ := gw_bind hf
    refine gw_Vv (As := [.int x2, .int o1.1]) (mc' := 0) (ms' := 0) F hW (mXX1_put4_1 h9) (cwV 2 hts (gT_V q_5_38 q_4_156 q_4_157 q_1_3 q_4_158) rfl rfl rfl hdX1_put4 ⟨Nat.le_of_ble_eq_true rfl, Nat.le_of_ble_eq_true rfl⟩) 1 1 (aX_1 K o5) rfl rfl hl.1 rfl (Nat.le_of_ble_eq_true rfl) dX4_gain_42 ⟨Nat.le_of_ble_eq_true rfl, Nat.le_of_ble_eq_true rfl⟩ rfl rfl (fun H locs hW => ?_)
    refine lv_aload_n hx hb dX4_gain_45 rfl (lv_at hl 1 rfl) ?_
    refine gw_get (v := .ref (ka K 1)) F inc_X4 hW 6 4 0 (aX_6 K o8) rfl (by decide) (hG _ q_1_108) (fun _ h9 => h9) rfl dX4_gain_46 ?_
    refine lv_iload_n hx hb dX4_gain_49 rfl (lv_at hl 2 rfl) ?_
    refine lv_bipush (v := (28 : Int32)) hx hb dX4_gain_50 (by decide) ?_
    refine lv_iadd hx hb dX4_gain_52 ?_
    refine lv_aload_n hx hb dX4_gain_53 rfl (lv_at hl 1 rfl) ?_
    refine gw_get (v := .ref (ka K 1)) F inc_X4 hW 6 4 0 (aX_6 K o8) rfl (by decide) (hG _ q_1_108) (fun _ h9 => h9) rfl dX4_gain_54 ?_
    refine lv_iload_n hx hb dX4_gain_57 rfl (lv_at hl 2 rfl) ?_
    refine lv_bipush (v := (28 : Int32)) hx hb dX4_gain_58 (by decide) ?_
    refine lv_iadd hx hb dX4_gain_60 ?_
    obtain ⟨o11, h12, hf⟩ := gw_bind hf
    refine gw_Vi (As := [.int (x1 + (28 : Int32))]) (mc' := 0) (ms' := 0) F hW (mXX1_get4_1 h12) (cwV 1 hts (gT_V q_2_157 q_2_114 q_2_115 q_1_3 q_2_116) rfl rfl rfl hdX1_get4 ⟨Nat.le_of_ble_eq_true rfl, Nat.le_of_ble_eq_true rfl⟩) 1 1 (aX_1 K o8) rfl rfl hl.1 rfl (Nat.le_of_ble_eq_true rfl) dX4_gain_61 ⟨Nat.le_of_ble_eq_true rfl, Nat.le_of_ble_eq_true rfl⟩ rfl rfl (fun H locs hW => ?_)
    refine lv_iconst (v := (2 : Int32)) hx hb dX4_gain_64 (by decide) ?_
    refine lv_iadd hx hb dX4_gain_65 ?_
    obtain ⟨o14, h15, hf⟩ := gw_bind hf
    refine gw_Vv (As := [.int (x1 + (28 : Int32)), .int (o11.1 + (2 : Int32))]) (mc' := 0) (ms' := 0) F hW (mXX1_put4_1 h15) (cwV 2 hts (gT_V q_5_38 q_4_156 q_4_157 q_1_3 q_4_158) rfl rfl rfl hdX1_put4 ⟨Nat.le_of_ble_eq_true rfl, Nat.le_of_ble_eq_true rfl⟩) 1 1 (aX_1 K o11.2) rfl rfl hl.1 rfl (Nat.le_of_ble_eq_true rfl) dX4_gain_66 ⟨Nat.le_of_ble_eq_true rfl, Nat.le_of_ble_eq_true rfl⟩ rfl rfl (fun H locs hW => ?_)
    exact gw_retv F hW hf dX4_gain_69
  · replace hf := (if_pos c4).symm.trans hf
    exact gw_retv F hW hf dX4_gain_13
set_option maxHeartbeats 4000000 in
set_option maxRecDepth 100000 in
theorem mXX4_gain_6 {l : Launch} {K : KX} {σ : XS} {x1 : Int32} {x2 : Int32} {o : XS} (hf : fXX4_gain_6 (kn K) x1 x2 σ = some o) : gw_Mv l (kD K) vwCl (tyX K) (wX K) yX4_gain wsX4_gain rXX4_gain_6 [.ref (ka K 6), .int x1, .int x2] σ o := by
  intro sz
  refine gw_body (cc := cX4_gain) (maxL := 4) (yret := none) (by decide +kernel) rfl ?_ (Nat.le_of_ble_eq_true rfl)
  intro p e s m below meth c F hsz hW ls hl
  exact wXX4_gain_6_0 F x1 x2 σ o hf s.heap [] ls hl hW
abbrev rXX4_rowPointerAt_6 : Room := { frames := 1, cells := 0, slots := 0, locals := 21 }
set_option maxHeartbeats 4000000 in
set_option maxRecDepth 100000 in
theorem wXX4_rowPointerAt_6_0 {p : Program} {l : Launch} {e : Env} {s : State} {m : MethodId} {args : Array Value} {below : List Frame} {meth : Method} {c : Code} {A : Nat → Prop} {K : KX} (F : fx_ p s m args meth c cX4_rowPointerAt 3 (some .int) RX4 wsX4_rowPointerAt) (x1 : Int32) (x2 : Int32) (σ : XS) (o : (Int32 × XS)) (hf : fXX4_rowPointerAt_6_0 (kn K) x1 x2 σ = some o) (H : Heap) (locs : List Loc) (ls : Array Slot) (hl : lv_has ls 3 [(0, .ref (ka K 6)), (1, .int x1), (2, .int x2)]) (hW : gw_ (kD K) vwCl (tyX K) (wX K) A s σ H locs) : W p l e rXX4_rowPointerAt_6 s m args below meth c H locs 0 0 (MQ below (gw_Qi (kD K) vwCl (tyX K) (wX K) A o) args s rXX4_rowPointerAt_6.cells rXX4_rowPointerAt_6.slots A) (F0 m 0 ls []) := by
  have hx := F.1
  have hb := F.2.1
  have hml := F.2.2.2.1
  have hown := F.2.2.2.2.1
  have hts := F.2.2.2.2.2.1
  have hG : ∀ x ∈ gT, x.before args s = true := fun x h => hts x (List.mem_cons_of_mem _ h)
  unfold fXX4_rowPointerAt_6_0 at hf
  refine lv_aload_n hx hb dX4_rowPointerAt_0 rfl (lv_at hl 0 rfl) ?_
  refine gw_get (v := .ref (ka K 1)) F inc_X4 hW 6 4 0 (aX_6 K σ) rfl (by decide) (hG _ q_1_108) (fun _ h9 => h9) rfl dX4_rowPointerAt_1 ?_
  refine lv_iload_n hx hb dX4_rowPointerAt_4 rfl (lv_at hl 1 rfl) ?_
  refine lv_bipush (v := (92 : Int32)) hx hb dX4_rowPointerAt_5 (by decide) ?_
  refine lv_iadd hx hb dX4_rowPointerAt_7 ?_
  obtain ⟨o1, h2, hf⟩ := gw_bind hf
  refine gw_Vi (As := [.int (x1 + (92 : Int32))]) (mc' := 0) (ms' := 0) F hW (mXX1_get4_1 h2) (cwV 1 hts (gT_V q_2_157 q_2_114 q_2_115 q_1_3 q_2_116) rfl rfl rfl hdX1_get4 ⟨Nat.le_of_ble_eq_true rfl, Nat.le_of_ble_eq_true rfl⟩) 1 1 (aX_1 K σ) rfl rfl hl.1 rfl (Nat.le_of_ble_eq_true rfl) dX4_rowPointerAt_8 ⟨Nat.le_of_ble_eq_true rfl, Nat.le_of_ble_eq_true rfl⟩ rfl rfl (fun H locs hW => ?_)
  refine lv_sipush (v := (1024 : Int32)) hx hb dX4_rowPointerAt_11 (by decide) ?_
  refine lv_imul hx hb dX4_rowPointerAt_14 ?_
  refine lv_iconst (v := (4 : Int32)) hx hb dX4_rowPointerAt_15 (by decide) ?_
  refine lv_iload_n hx hb dX4_rowPointerAt_16 rfl (lv_at hl 2 rfl) ?_
  refine lv_sipush (v := (268 : Int32)) hx hb dX4_rowPointerAt_17 (by decide) ?_
  refine lv_isub hx hb dX4_rowPointerAt_20 ?_
  refine lv_sipush (v := (256 : Int32)) hx hb dX4_rowPointerAt_21 (by decide) ?_
  refine lv_idiv hx hb dX4_rowPointerAt_24 (by decide) ?_
  refine lv_imul hx hb dX4_rowPointerAt_25 ?_
  refine lv_iadd hx hb dX4_rowPointerAt_26 ?_
  exact gw_reti F hW hf dX4_rowPointerAt_27
set_option maxHeartbeats 4000000 in
set_option maxRecDepth 100000 in
theorem mXX4_rowPointerAt_6 {l : Launch} {K : KX} {σ : XS} {x1 : Int32} {x2 : Int32} {o : (Int32 × XS)} (hf : fXX4_rowPointerAt_6 (kn K) x1 x2 σ = some o) : gw_Mi l (kD K) vwCl (tyX K) (wX K) yX4_rowPointerAt wsX4_rowPointerAt rXX4_rowPointerAt_6 [.ref (ka K 6), .int x1, .int x2] σ o := by
  intro sz
  refine gw_body (cc := cX4_rowPointerAt) (maxL := 3) (yret := some .int) (by decide +kernel) rfl ?_ (Nat.le_of_ble_eq_true rfl)
  intro p e s m below meth c F hsz hW ls hl
  exact wXX4_rowPointerAt_6_0 F x1 x2 σ o hf s.heap [] ls hl hW
abbrev rXX4_addBlock_6 : Room := { frames := 4, cells := 0, slots := 0, locals := 99 }
set_option maxHeartbeats 4000000 in
set_option maxRecDepth 100000 in
theorem wXX4_addBlock_6_58 {p : Program} {l : Launch} {e : Env} {s : State} {m : MethodId} {args : Array Value} {below : List Frame} {meth : Method} {c : Code} {A : Nat → Prop} {K : KX} (F : fx_ p s m args meth c cX4_addBlock 4 none RX4 wsX4_addBlock) (x2 : Int32) (x3 : Int32) (σ : XS) (o : XS) (hf : fXX4_addBlock_6_58 (kn K) x2 x3 σ = some o) (H : Heap) (locs : List Loc) (ls : Array Slot) (hl : lv_has ls 4 [(0, .ref (ka K 6)), (2, .int x2), (3, .int x3)]) (hW : gw_ (kD K) vwCl (tyX K) (wX K) A s σ H locs) : W p l e rXX4_addBlock_6 s m args below meth c H locs 0 0 (MQ below (gw_Qv (kD K) vwCl (tyX K) (wX K) A o) args s rXX4_addBlock_6.cells rXX4_addBlock_6.slots A) (F0 m 58 ls []) := by
  have hx := F.1
  have hb := F.2.1
  have hml := F.2.2.2.1
  have hown := F.2.2.2.2.1
  have hts := F.2.2.2.2.2.1
  have hG : ∀ x ∈ gT, x.before args s = true := fun x h => hts x (List.mem_cons_of_mem _ h)
  unfold fXX4_addBlock_6_58 at hf
  refine lv_aload_n hx hb dX4_addBlock_58 rfl (lv_at hl 0 rfl) ?_
  refine lv_iload_n hx hb dX4_addBlock_59 rfl (lv_at hl 2 rfl) ?_
  refine lv_aload_n hx hb dX4_addBlock_60 rfl (lv_at hl 0 rfl) ?_
  refine lv_iload_n hx hb dX4_addBlock_61 rfl (lv_at hl 2 rfl) ?_
  refine lv_iload_n hx hb dX4_addBlock_62 rfl (lv_at hl 1 rfl) ?_
  obtain ⟨o10, h11, hf⟩ := gw_bind hf
  refine gw_Vi (As := [.int x3, .int x2]) (mc' := 0) (ms' := 0) F hW (mXX4_pointerAt_6 h11) (cwV 2 hts (gT_V q_2_164 q_2_166 qp_7 q_1_6 q_2_167) rfl rfl rfl hdX4_pointerAt ⟨Nat.le_of_ble_eq_true rfl, Nat.le_of_ble_eq_true rfl⟩) 6 4 (aX_6 K σ) rfl rfl hl.1 rfl (Nat.le_of_ble_eq_true rfl) dX4_addBlock_63 ⟨Nat.le_of_ble_eq_true rfl, Nat.le_of_ble_eq_true rfl⟩ rfl rfl (fun H locs hW => ?_)
  obtain ⟨o13, h14, hf⟩ := gw_bind hf
  refine gw_Vv (As := [.int x3, .int o10.1]) (mc' := 0) (ms' := 0) F hW (mXX4_gain_6 h14) (cwV 2 hts (gT_V q_5_32 q_5_34 qp_25 q_1_6 q_5_35) rfl rfl rfl hdX4_gain ⟨Nat.le_of_ble_eq_true rfl, Nat.le_of_ble_eq_true rfl⟩) 6 4 (aX_6 K o10.2) rfl rfl hl.1 rfl (Nat.le_of_ble_eq_true rfl) dX4_addBlock_66 ⟨Nat.le_of_ble_eq_true rfl, Nat.le_of_ble_eq_true rfl⟩ rfl rfl (fun H locs hW => ?_)
  exact gw_retv F hW hf dX4_addBlock_69
set_option maxHeartbeats 4000000 in
set_option maxRecDepth 100000 in
theorem wXX4_addBlock_6_40 {p : Program} {l : Launch} {e : Env} {s : State} {m : MethodId} {args : Array Value} {below : List Frame} {meth : Method} {c : Code} {A : Nat → Prop} {K : KX} (F : fx_ p s m args meth c cX4_addBlock 4 none RX4 wsX4_addBlock) (x2 : Int32) (x3 : Int32) (σ : XS) (o : XS) (hf : fXX4_addBlock_6_40 (kn K) x2 x3 σ = some o) (H : Heap) (locs : List Loc) (ls : Array Slot) (hl : lv_has ls 4 [(0, .ref (ka K 6)), (2, .int x2), (3, .int x3)]) (hW : gw_ (kD K) vwCl (tyX K) (wX K) A s σ H locs) : W p l e rXX4_addBlock_6 s m args below meth c H locs 0 0 (MQ below (gw_Qv (kD K) vwCl (tyX K) (wX K) A o) args s rXX4_addBlock_6.cells rXX4_addBlock_6.slots A) (F0 m 40 ls []) := by
  have hx := F.1
  have hb := F.2.1
  have hml := F.2.2.2.1
  have hown := F.2.2.2.2.1
  have hts := F.2.2.2.2.2.1
  have hG : ∀ x ∈ gT, x.before args s = true := fun x h => hts x (List.mem_cons_of_mem _ h)
  unfold fXX4_addBlock_6_40 at hf
  refine lv_iload_n hx hb dX4_addBlock_40 rfl (lv_at hl 1 rfl) ?_
  obtain ⟨o6, h7, hf⟩ := gw_bind hf
  refine gw_Sz (As := [.int x2]) (mc' := 0) (ms' := 0) F hW (mXX4_beginsRow h7) (va_cwS 1 hts (gT_S q_5_39 q_5_40 q_1_6 q_5_41) rfl rfl rfl hdX4_beginsRow.2 ⟨Nat.le_of_ble_eq_true rfl, Nat.le_of_ble_eq_true rfl⟩) rfl hl.1 rfl (Nat.le_of_ble_eq_true rfl) dX4_addBlock_41 ⟨Nat.le_of_ble_eq_true rfl, Nat.le_of_ble_eq_true rfl⟩ rfl rfl (fun H locs z8 hW => ?_)
  refine lv_if_eq (tgt := 58) hx hb dX4_addBlock_44 (by decide) (fun c9 => ?_) (fun c9 => ?_)
  · replace hf := (if_pos c9).symm.trans hf
    exact wXX4_addBlock_6_58 F x2 x3 _ _ hf _ _ _ (lv_sub hl [0, 1, 2] rfl) hW
  · replace hf := (if_neg c9).symm.trans hf
    refine lv_aload_n hx hb dX4_addBlock_47 rfl (lv_at hl 0 rfl) ?_
    refine lv_iload_n hx hb dX4_addBlock_48 rfl (lv_at hl 2 rfl) ?_
    refine lv_aload_n hx hb dX4_addBlock_49 rfl (lv_at hl 0 rfl) ?_
    refine lv_iload_n hx hb dX4_addBlock_50 rfl (lv_at hl 2 rfl) ?_
    refine lv_iload_n hx hb dX4_addBlock_51 rfl (lv_at hl 1 rfl) ?_
    obtain ⟨o16, h17, hf⟩ := gw_bind hf
    refine gw_Vi (As := [.int x3, .int x2]) (mc' := 0) (ms' := 0) F hW (mXX4_rowPointerAt_6 h17) (cwV 2 hts (gT_V q_5_42 q_5_44 qp_26 q_1_6 q_5_45) rfl rfl rfl hdX4_rowPointerAt ⟨Nat.le_of_ble_eq_true rfl, Nat.le_of_ble_eq_true rfl⟩) 6 4 (aX_6 K o6.2) rfl rfl hl.1 rfl (Nat.le_of_ble_eq_true rfl) dX4_addBlock_52 ⟨Nat.le_of_ble_eq_true rfl, Nat.le_of_ble_eq_true rfl⟩ rfl rfl (fun H locs hW => ?_)
    obtain ⟨o19, h20, hf⟩ := gw_bind hf
    refine gw_Vv (As := [.int x3, .int o16.1]) (mc' := 0) (ms' := 0) F hW (mXX4_gain_6 h20) (cwV 2 hts (gT_V q_5_32 q_5_34 qp_25 q_1_6 q_5_35) rfl rfl rfl hdX4_gain ⟨Nat.le_of_ble_eq_true rfl, Nat.le_of_ble_eq_true rfl⟩) 6 4 (aX_6 K o16.2) rfl rfl hl.1 rfl (Nat.le_of_ble_eq_true rfl) dX4_addBlock_55 ⟨Nat.le_of_ble_eq_true rfl, Nat.le_of_ble_eq_true rfl⟩ rfl rfl (fun H locs hW => ?_)
    exact wXX4_addBlock_6_58 F x2 x3 _ _ hf _ _ _ (lv_sub hl [0, 1, 2] rfl) hW
set_option maxHeartbeats 4000000 in
set_option maxRecDepth 100000 in
theorem wXX4_addBlock_6_24 {p : Program} {l : Launch} {e : Env} {s : State} {m : MethodId} {args : Array Value} {below : List Frame} {meth : Method} {c : Code} {A : Nat → Prop} {K : KX} (F : fx_ p s m args meth c cX4_addBlock 4 none RX4 wsX4_addBlock) (x2 : Int32) (x3 : Int32) (σ : XS) (o : XS) (hf : fXX4_addBlock_6_24 (kn K) x2 x3 σ = some o) (H : Heap) (locs : List Loc) (ls : Array Slot) (hl : lv_has ls 4 [(0, .ref (ka K 6)), (2, .int x2), (3, .int x3)]) (hW : gw_ (kD K) vwCl (tyX K) (wX K) A s σ H locs) : W p l e rXX4_addBlock_6 s m args below meth c H locs 0 0 (MQ below (gw_Qv (kD K) vwCl (tyX K) (wX K) A o) args s rXX4_addBlock_6.cells rXX4_addBlock_6.slots A) (F0 m 24 ls []) := by
  have hx := F.1
  have hb := F.2.1
  have hml := F.2.2.2.1
  have hown := F.2.2.2.2.1
  have hts := F.2.2.2.2.2.1
  have hG : ∀ x ∈ gT, x.before args s = true := fun x h => hts x (List.mem_cons_of_mem _ h)
  unfold fXX4_addBlock_6_24 at hf
  refine lv_iload_n hx hb dX4_addBlock_24 rfl (lv_at hl 1 rfl) ?_
  refine lv_sipush (v := (268 : Int32)) hx hb dX4_addBlock_25 (by decide) ?_
  refine lv_icmp_ne (tgt := 40) hx hb dX4_addBlock_28 (by decide) (fun c5 => ?_) (fun c5 => ?_)
  · replace hf := (if_neg c5).symm.trans hf
    exact wXX4_addBlock_6_40 F x2 x3 _ _ hf _ _ _ (lv_sub hl [0, 1, 2] rfl) hW
  · replace hf := (if_pos c5).symm.trans hf
    refine lv_aload_n hx hb dX4_addBlock_31 rfl (lv_at hl 0 rfl) ?_
    refine lv_iload_n hx hb dX4_addBlock_32 rfl (lv_at hl 2 rfl) ?_
    refine lv_iload_n hx hb dX4_addBlock_33 rfl (lv_at hl 2 rfl) ?_
    refine lv_bipush (v := (92 : Int32)) hx hb dX4_addBlock_34 (by decide) ?_
    refine lv_iadd hx hb dX4_addBlock_36 ?_
    obtain ⟨o22, h23, hf⟩ := gw_bind hf
    refine gw_Vv (As := [.int x3, .int (x3 + (92 : Int32))]) (mc' := 0) (ms' := 0) F hW (mXX4_gain_6 h23) (cwV 2 hts (gT_V q_5_32 q_5_34 qp_25 q_1_6 q_5_35) rfl rfl rfl hdX4_gain ⟨Nat.le_of_ble_eq_true rfl, Nat.le_of_ble_eq_true rfl⟩) 6 4 (aX_6 K σ) rfl rfl hl.1 rfl (Nat.le_of_ble_eq_true rfl) dX4_addBlock_37 ⟨Nat.le_of_ble_eq_true rfl, Nat.le_of_ble_eq_true rfl⟩ rfl rfl (fun H locs hW => ?_)
    exact wXX4_addBlock_6_40 F x2 x3 _ _ hf _ _ _ (lv_sub hl [0, 1, 2] rfl) hW
set_option maxHeartbeats 4000000 in
set_option maxRecDepth 100000 in
theorem wXX4_addBlock_6_0 {p : Program} {l : Launch} {e : Env} {s : State} {m : MethodId} {args : Array Value} {below : List Frame} {meth : Method} {c : Code} {A : Nat → Prop} {K : KX} (F : fx_ p s m args meth c cX4_addBlock 4 none RX4 wsX4_addBlock) (x1 : Int32) (x2 : Int32) (σ : XS) (o : XS) (hf : fXX4_addBlock_6_0 (kn K) x1 x2 σ = some o) (H : Heap) (locs : List Loc) (ls : Array Slot) (hl : lv_has ls 4 [(0, .ref (ka K 6)), (1, .int x1), (2, .int x2)]) (hW : gw_ (kD K) vwCl (tyX K) (wX K) A s σ H locs) : W p l e rXX4_addBlock_6 s m args below meth c H locs 0 0 (MQ below (gw_Qv (kD K) vwCl (tyX K) (wX K) A o) args s rXX4_addBlock_6.cells rXX4_addBlock_6.slots A) (F0 m 0 ls []) := by
  have hx := F.1
  have hb := F.2.1
  have hml := F.2.2.2.1
  have hown := F.2.2.2.2.1
  have hts := F.2.2.2.2.2.1
  have hG : ∀ x ∈ gT, x.before args s = true := fun x h => hts x (List.mem_cons_of_mem _ h)
  unfold fXX4_addBlock_6_0 at hf
  refine lv_aload_n hx hb dX4_addBlock_0 rfl (lv_at hl 0 rfl) ?_
  refine gw_get (v := .ref (ka K 3)) F inc_X4 hW 6 4 1 (aX_6 K σ) rfl (by decide) (hG _ q_1_109) (fun _ h9 => h9) rfl dX4_addBlock_1 ?_
  refine lv_iload_n hx hb dX4_addBlock_4 rfl (lv_at hl 1 rfl) ?_
  obtain ⟨o1, h2, hf⟩ := gw_bind hf
  refine gw_Vi (As := [.int x1]) (mc' := 0) (ms' := 0) F hW (mXX2_inodeAt_3 h2) (cwV 1 hts (gT_V q_2_147 q_2_101 q_2_102 q_1_4 q_2_103) rfl rfl rfl hdX2_inodeAt ⟨Nat.le_of_ble_eq_true rfl, Nat.le_of_ble_eq_true rfl⟩) 3 2 (aX_3 K σ) rfl rfl hl.1 rfl (Nat.le_of_ble_eq_true rfl) dX4_addBlock_5 ⟨Nat.le_of_ble_eq_true rfl, Nat.le_of_ble_eq_true rfl⟩ rfl rfl (fun H locs hW => ?_)
  refine lv_istore_n (lv' := [(3, .int o1.1), (0, .ref (ka K 6)), (1, .int x1), (2, .int x2)]) hx hb dX4_addBlock_8 rfl hl (by decide) rfl (fun ls hl => ?_)
  refine lv_iload_n hx hb dX4_addBlock_9 rfl (lv_at hl 3 rfl) ?_
  refine lv_bipush (v := (12 : Int32)) hx hb dX4_addBlock_10 (by decide) ?_
  refine lv_icmp_ne (tgt := 24) hx hb dX4_addBlock_12 (by decide) (fun c4 => ?_) (fun c4 => ?_)
  · replace hf := (if_neg c4).symm.trans hf
    exact wXX4_addBlock_6_24 F x2 o1.1 _ _ hf _ _ _ (lv_sub hl [1, 3, 0] rfl) hW
  · replace hf := (if_pos c4).symm.trans hf
    refine lv_aload_n hx hb dX4_addBlock_15 rfl (lv_at hl 1 rfl) ?_
    refine lv_iload_n hx hb dX4_addBlock_16 rfl (lv_at hl 0 rfl) ?_
    refine lv_iload_n hx hb dX4_addBlock_17 rfl (lv_at hl 0 rfl) ?_
    refine lv_bipush (v := (88 : Int32)) hx hb dX4_addBlock_18 (by decide) ?_
    refine lv_iadd hx hb dX4_addBlock_20 ?_
    obtain ⟨o25, h26, hf⟩ := gw_bind hf
    refine gw_Vv (As := [.int o1.1, .int (o1.1 + (88 : Int32))]) (mc' := 0) (ms' := 0) F hW (mXX4_gain_6 h26) (cwV 2 hts (gT_V q_5_32 q_5_34 qp_25 q_1_6 q_5_35) rfl rfl rfl hdX4_gain ⟨Nat.le_of_ble_eq_true rfl, Nat.le_of_ble_eq_true rfl⟩) 6 4 (aX_6 K o1.2) rfl rfl hl.1 rfl (Nat.le_of_ble_eq_true rfl) dX4_addBlock_21 ⟨Nat.le_of_ble_eq_true rfl, Nat.le_of_ble_eq_true rfl⟩ rfl rfl (fun H locs hW => ?_)
    exact wXX4_addBlock_6_24 F x2 o1.1 _ _ hf _ _ _ (lv_sub hl [1, 3, 0] rfl) hW
set_option maxHeartbeats 4000000 in
set_option maxRecDepth 100000 in
theorem mXX4_addBlock_6 {l : Launch} {K : KX} {σ : XS} {x1 : Int32} {x2 : Int32} {o : XS} (hf : fXX4_addBlock_6 (kn K) x1 x2 σ = some o) : gw_Mv l (kD K) vwCl (tyX K) (wX K) yX4_addBlock wsX4_addBlock rXX4_addBlock_6 [.ref (ka K 6), .int x1, .int x2] σ o := by
  intro sz
  refine gw_body (cc := cX4_addBlock) (maxL := 4) (yret := none) (by decide +kernel) rfl ?_ (Nat.le_of_ble_eq_true rfl)
  intro p e s m below meth c F hsz hW ls hl
  exact wXX4_addBlock_6_0 F x1 x2 σ o hf s.heap [] ls hl hW
abbrev rXX4_setSize_6 : Room := { frames := 1, cells := 0, slots := 0, locals := 22 }
set_option maxHeartbeats 4000000 in
set_option maxRecDepth 100000 in
theorem wXX4_setSize_6_0 {p : Program} {l : Launch} {e : Env} {s : State} {m : MethodId} {args : Array Value} {below : List Frame} {meth : Method} {c : Code} {A : Nat → Prop} {K : KX} (F : fx_ p s m args meth c cX4_setSize 3 none RX4 wsX4_setSize) (x1 : Int32) (x2 : Int32) (σ : XS) (o : XS) (hf : fXX4_setSize_6_0 (kn K) x1 x2 σ = some o) (H : Heap) (locs : List Loc) (ls : Array Slot) (hl : lv_has ls 3 [(0, .ref (ka K 6)), (1, .int x1), (2, .int x2)]) (hW : gw_ (kD K) vwCl (tyX K) (wX K) A s σ H locs) : W p l e rXX4_setSize_6 s m args below meth c H locs 0 0 (MQ below (gw_Qv (kD K) vwCl (tyX K) (wX K) A o) args s rXX4_setSize_6.cells rXX4_setSize_6.slots A) (F0 m 0 ls []) := by
  have hx := F.1
  have hb := F.2.1
  have hml := F.2.2.2.1
  have hown := F.2.2.2.2.1
  have hts := F.2.2.2.2.2.1
  have hG : ∀ x ∈ gT, x.before args s = true := fun x h => hts x (List.mem_cons_of_mem _ h)
  unfold fXX4_setSize_6_0 at hf
  refine lv_aload_n hx hb dX4_setSize_0 rfl (lv_at hl 0 rfl) ?_
  refine gw_get (v := .ref (ka K 1)) F inc_X4 hW 6 4 0 (aX_6 K σ) rfl (by decide) (hG _ q_1_108) (fun _ h9 => h9) rfl dX4_setSize_1 ?_
  refine lv_aload_n hx hb dX4_setSize_4 rfl (lv_at hl 0 rfl) ?_
  refine gw_get (v := .ref (ka K 3)) F inc_X4 hW 6 4 1 (aX_6 K σ) rfl (by decide) (hG _ q_1_109) (fun _ h9 => h9) rfl dX4_setSize_5 ?_
  refine lv_iload_n hx hb dX4_setSize_8 rfl (lv_at hl 1 rfl) ?_
  obtain ⟨o1, h2, hf⟩ := gw_bind hf
  refine gw_Vi (As := [.int x1]) (mc' := 0) (ms' := 0) F hW (mXX2_inodeAt_3 h2) (cwV 1 hts (gT_V q_2_147 q_2_101 q_2_102 q_1_4 q_2_103) rfl rfl rfl hdX2_inodeAt ⟨Nat.le_of_ble_eq_true rfl, Nat.le_of_ble_eq_true rfl⟩) 3 2 (aX_3 K σ) rfl rfl hl.1 rfl (Nat.le_of_ble_eq_true rfl) dX4_setSize_9 ⟨Nat.le_of_ble_eq_true rfl, Nat.le_of_ble_eq_true rfl⟩ rfl rfl (fun H locs hW => ?_)
  refine lv_iconst (v := (4 : Int32)) hx hb dX4_setSize_12 (by decide) ?_
  refine lv_iadd hx hb dX4_setSize_13 ?_
  refine lv_iload_n hx hb dX4_setSize_14 rfl (lv_at hl 2 rfl) ?_
  obtain ⟨o4, h5, hf⟩ := gw_bind hf
  refine gw_Vv (As := [.int (o1.1 + (4 : Int32)), .int x2]) (mc' := 0) (ms' := 0) F hW (mXX1_put4_1 h5) (cwV 2 hts (gT_V q_5_38 q_4_156 q_4_157 q_1_3 q_4_158) rfl rfl rfl hdX1_put4 ⟨Nat.le_of_ble_eq_true rfl, Nat.le_of_ble_eq_true rfl⟩) 1 1 (aX_1 K o1.2) rfl rfl hl.1 rfl (Nat.le_of_ble_eq_true rfl) dX4_setSize_15 ⟨Nat.le_of_ble_eq_true rfl, Nat.le_of_ble_eq_true rfl⟩ rfl rfl (fun H locs hW => ?_)
  exact gw_retv F hW hf dX4_setSize_18
set_option maxHeartbeats 4000000 in
set_option maxRecDepth 100000 in
theorem mXX4_setSize_6 {l : Launch} {K : KX} {σ : XS} {x1 : Int32} {x2 : Int32} {o : XS} (hf : fXX4_setSize_6 (kn K) x1 x2 σ = some o) : gw_Mv l (kD K) vwCl (tyX K) (wX K) yX4_setSize wsX4_setSize rXX4_setSize_6 [.ref (ka K 6), .int x1, .int x2] σ o := by
  intro sz
  refine gw_body (cc := cX4_setSize) (maxL := 3) (yret := none) (by decide +kernel) rfl ?_ (Nat.le_of_ble_eq_true rfl)
  intro p e s m below meth c F hsz hW ls hl
  exact wXX4_setSize_6_0 F x1 x2 σ o hf s.heap [] ls hl hW
abbrev rXX4_blockOf_6 : Room := { frames := 2, cells := 0, slots := 0, locals := 44 }
set_option maxHeartbeats 4000000 in
set_option maxRecDepth 100000 in
theorem wXX4_blockOf_6_0 {p : Program} {l : Launch} {e : Env} {s : State} {m : MethodId} {args : Array Value} {below : List Frame} {meth : Method} {c : Code} {A : Nat → Prop} {K : KX} (F : fx_ p s m args meth c cX4_blockOf 3 (some .int) RX4 wsX4_blockOf) (x1 : Int32) (x2 : Int32) (σ : XS) (o : (Int32 × XS)) (hf : fXX4_blockOf_6_0 (kn K) x1 x2 σ = some o) (H : Heap) (locs : List Loc) (ls : Array Slot) (hl : lv_has ls 3 [(0, .ref (ka K 6)), (1, .int x1), (2, .int x2)]) (hW : gw_ (kD K) vwCl (tyX K) (wX K) A s σ H locs) : W p l e rXX4_blockOf_6 s m args below meth c H locs 0 0 (MQ below (gw_Qi (kD K) vwCl (tyX K) (wX K) A o) args s rXX4_blockOf_6.cells rXX4_blockOf_6.slots A) (F0 m 0 ls []) := by
  have hx := F.1
  have hb := F.2.1
  have hml := F.2.2.2.1
  have hown := F.2.2.2.2.1
  have hts := F.2.2.2.2.2.1
  have hG : ∀ x ∈ gT, x.before args s = true := fun x h => hts x (List.mem_cons_of_mem _ h)
  unfold fXX4_blockOf_6_0 at hf
  refine lv_aload_n hx hb dX4_blockOf_0 rfl (lv_at hl 0 rfl) ?_
  refine gw_get (v := .ref (ka K 1)) F inc_X4 hW 6 4 0 (aX_6 K σ) rfl (by decide) (hG _ q_1_108) (fun _ h9 => h9) rfl dX4_blockOf_1 ?_
  refine lv_aload_n hx hb dX4_blockOf_4 rfl (lv_at hl 0 rfl) ?_
  refine lv_aload_n hx hb dX4_blockOf_5 rfl (lv_at hl 0 rfl) ?_
  refine gw_get (v := .ref (ka K 3)) F inc_X4 hW 6 4 1 (aX_6 K σ) rfl (by decide) (hG _ q_1_109) (fun _ h9 => h9) rfl dX4_blockOf_6 ?_
  refine lv_iload_n hx hb dX4_blockOf_9 rfl (lv_at hl 1 rfl) ?_
  obtain ⟨o1, h2, hf⟩ := gw_bind hf
  refine gw_Vi (As := [.int x1]) (mc' := 0) (ms' := 0) F hW (mXX2_inodeAt_3 h2) (cwV 1 hts (gT_V q_2_147 q_2_101 q_2_102 q_1_4 q_2_103) rfl rfl rfl hdX2_inodeAt ⟨Nat.le_of_ble_eq_true rfl, Nat.le_of_ble_eq_true rfl⟩) 3 2 (aX_3 K σ) rfl rfl hl.1 rfl (Nat.le_of_ble_eq_true rfl) dX4_blockOf_10 ⟨Nat.le_of_ble_eq_true rfl, Nat.le_of_ble_eq_true rfl⟩ rfl rfl (fun H locs hW => ?_)
  refine lv_iload_n hx hb dX4_blockOf_13 rfl (lv_at hl 2 rfl) ?_
  obtain ⟨o4, h5, hf⟩ := gw_bind hf
  refine gw_Vi (As := [.int o1.1, .int x2]) (mc' := 0) (ms' := 0) F hW (mXX4_pointerAt_6 h5) (cwV 2 hts (gT_V q_2_164 q_2_166 qp_7 q_1_6 q_2_167) rfl rfl rfl hdX4_pointerAt ⟨Nat.le_of_ble_eq_true rfl, Nat.le_of_ble_eq_true rfl⟩) 6 4 (aX_6 K o1.2) rfl rfl hl.1 rfl (Nat.le_of_ble_eq_true rfl) dX4_blockOf_14 ⟨Nat.le_of_ble_eq_true rfl, Nat.le_of_ble_eq_true rfl⟩ rfl rfl (fun H locs hW => ?_)
  obtain ⟨o7, h8, hf⟩ := gw_bind hf
  refine gw_Vi (As := [.int o4.1]) (mc' := 0) (ms' := 0) F hW (mXX1_get4_1 h8) (cwV 1 hts (gT_V q_2_157 q_2_114 q_2_115 q_1_3 q_2_116) rfl rfl rfl hdX1_get4 ⟨Nat.le_of_ble_eq_true rfl, Nat.le_of_ble_eq_true rfl⟩) 1 1 (aX_1 K o4.2) rfl rfl hl.1 rfl (Nat.le_of_ble_eq_true rfl) dX4_blockOf_17 ⟨Nat.le_of_ble_eq_true rfl, Nat.le_of_ble_eq_true rfl⟩ rfl rfl (fun H locs hW => ?_)
  exact gw_reti F hW hf dX4_blockOf_20
set_option maxHeartbeats 4000000 in
set_option maxRecDepth 100000 in
theorem mXX4_blockOf_6 {l : Launch} {K : KX} {σ : XS} {x1 : Int32} {x2 : Int32} {o : (Int32 × XS)} (hf : fXX4_blockOf_6 (kn K) x1 x2 σ = some o) : gw_Mi l (kD K) vwCl (tyX K) (wX K) yX4_blockOf wsX4_blockOf rXX4_blockOf_6 [.ref (ka K 6), .int x1, .int x2] σ o := by
  intro sz
  refine gw_body (cc := cX4_blockOf) (maxL := 3) (yret := some .int) (by decide +kernel) rfl ?_ (Nat.le_of_ble_eq_true rfl)
  intro p e s m below meth c F hsz hW ls hl
  exact wXX4_blockOf_6_0 F x1 x2 σ o hf s.heap [] ls hl hW
abbrev rXX4_addDirectoryBlock_6 : Room := { frames := 5, cells := 0, slots := 0, locals := 122 }
set_option maxHeartbeats 4000000 in
set_option maxRecDepth 100000 in
theorem wXX4_addDirectoryBlock_6_0 {p : Program} {l : Launch} {e : Env} {s : State} {m : MethodId} {args : Array Value} {below : List Frame} {meth : Method} {c : Code} {A : Nat → Prop} {K : KX} (F : fx_ p s m args meth c cX4_addDirectoryBlock 3 (some .int) RX4 wsX4_addDirectoryBlock) (x1 : Int32) (σ : XS) (o : (Int32 × XS)) (hf : fXX4_addDirectoryBlock_6_0 (kn K) x1 σ = some o) (H : Heap) (locs : List Loc) (ls : Array Slot) (hl : lv_has ls 3 [(0, .ref (ka K 6)), (1, .int x1)]) (hW : gw_ (kD K) vwCl (tyX K) (wX K) A s σ H locs) : W p l e rXX4_addDirectoryBlock_6 s m args below meth c H locs 0 0 (MQ below (gw_Qi (kD K) vwCl (tyX K) (wX K) A o) args s rXX4_addDirectoryBlock_6.cells rXX4_addDirectoryBlock_6.slots A) (F0 m 0 ls []) := by
  have hx := F.1
  have hb := F.2.1
  have hml := F.2.2.2.1
  have hown := F.2.2.2.2.1
  have hts := F.2.2.2.2.2.1
  have hG : ∀ x ∈ gT, x.before args s = true := fun x h => hts x (List.mem_cons_of_mem _ h)
  unfold fXX4_addDirectoryBlock_6_0 at hf
  refine lv_aload_n hx hb dX4_addDirectoryBlock_0 rfl (lv_at hl 0 rfl) ?_
  refine lv_iload_n hx hb dX4_addDirectoryBlock_1 rfl (lv_at hl 1 rfl) ?_
  obtain ⟨o1, h2, hf⟩ := gw_bind hf
  refine gw_Vi (As := [.int x1]) (mc' := 0) (ms' := 0) F hW (mXX4_size_6 h2) (cwV 1 hts (gT_V q_5_26 q_2_154 q_2_155 q_1_6 q_2_156) rfl rfl rfl hdX4_size ⟨Nat.le_of_ble_eq_true rfl, Nat.le_of_ble_eq_true rfl⟩) 6 4 (aX_6 K σ) rfl rfl hl.1 rfl (Nat.le_of_ble_eq_true rfl) dX4_addDirectoryBlock_2 ⟨Nat.le_of_ble_eq_true rfl, Nat.le_of_ble_eq_true rfl⟩ rfl rfl (fun H locs hW => ?_)
  obtain ⟨o4, h5, hf⟩ := gw_bind hf
  refine gw_Si (As := [.int o1.1]) (mc' := 0) (ms' := 0) F hW (mXX4_blocksFor h5) (va_cwS 1 hts (gT_S q_5_27 q_2_120 q_1_6 q_2_121) rfl rfl rfl hdX4_blocksFor.2 ⟨Nat.le_of_ble_eq_true rfl, Nat.le_of_ble_eq_true rfl⟩) rfl hl.1 rfl (Nat.le_of_ble_eq_true rfl) dX4_addDirectoryBlock_5 ⟨Nat.le_of_ble_eq_true rfl, Nat.le_of_ble_eq_true rfl⟩ rfl rfl (fun H locs hW => ?_)
  refine lv_istore_n (lv' := [(2, .int o4.1), (0, .ref (ka K 6)), (1, .int x1)]) hx hb dX4_addDirectoryBlock_8 rfl hl (by decide) rfl (fun ls hl => ?_)
  refine lv_aload_n hx hb dX4_addDirectoryBlock_9 rfl (lv_at hl 1 rfl) ?_
  refine lv_iload_n hx hb dX4_addDirectoryBlock_10 rfl (lv_at hl 2 rfl) ?_
  refine lv_iload_n hx hb dX4_addDirectoryBlock_11 rfl (lv_at hl 0 rfl) ?_
  obtain ⟨o7, h8, hf⟩ := gw_bind hf
  refine gw_Vv (As := [.int x1, .int o4.1]) (mc' := 0) (ms' := 0) F hW (mXX4_addBlock_6 h8) (cwV 2 hts (gT_V q_5_28 q_5_30 qp_24 q_1_6 q_5_31) rfl rfl rfl hdX4_addBlock ⟨Nat.le_of_ble_eq_true rfl, Nat.le_of_ble_eq_true rfl⟩) 6 4 (aX_6 K o4.2) rfl rfl hl.1 rfl (Nat.le_of_ble_eq_true rfl) dX4_addDirectoryBlock_12 ⟨Nat.le_of_ble_eq_true rfl, Nat.le_of_ble_eq_true rfl⟩ rfl rfl (fun H locs hW => ?_)
  refine lv_aload_n hx hb dX4_addDirectoryBlock_15 rfl (lv_at hl 1 rfl) ?_
  refine lv_iload_n hx hb dX4_addDirectoryBlock_16 rfl (lv_at hl 2 rfl) ?_
  refine lv_iload_n hx hb dX4_addDirectoryBlock_17 rfl (lv_at hl 0 rfl) ?_
  refine lv_iconst (v := (1 : Int32)) hx hb dX4_addDirectoryBlock_18 (by decide) ?_
  refine lv_iadd hx hb dX4_addDirectoryBlock_19 ?_
  refine lv_sipush (v := (1024 : Int32)) hx hb dX4_addDirectoryBlock_20 (by decide) ?_
  refine lv_imul hx hb dX4_addDirectoryBlock_23 ?_
  obtain ⟨o10, h11, hf⟩ := gw_bind hf
  refine gw_Vv (As := [.int x1, .int ((o4.1 + (1 : Int32)) * (1024 : Int32))]) (mc' := 0) (ms' := 0) F hW (mXX4_setSize_6 h11) (cwV 2 hts (gT_V q_5_46 q_5_48 qp_27 q_1_6 q_5_49) rfl rfl rfl hdX4_setSize ⟨Nat.le_of_ble_eq_true rfl, Nat.le_of_ble_eq_true rfl⟩) 6 4 (aX_6 K o7) rfl rfl hl.1 rfl (Nat.le_of_ble_eq_true rfl) dX4_addDirectoryBlock_24 ⟨Nat.le_of_ble_eq_true rfl, Nat.le_of_ble_eq_true rfl⟩ rfl rfl (fun H locs hW => ?_)
  refine lv_aload_n hx hb dX4_addDirectoryBlock_27 rfl (lv_at hl 1 rfl) ?_
  refine lv_iload_n hx hb dX4_addDirectoryBlock_28 rfl (lv_at hl 2 rfl) ?_
  refine lv_iload_n hx hb dX4_addDirectoryBlock_29 rfl (lv_at hl 0 rfl) ?_
  obtain ⟨o13, h14, hf⟩ := gw_bind hf
  refine gw_Vi (As := [.int x1, .int o4.1]) (mc' := 0) (ms' := 0) F hW (mXX4_blockOf_6 h14) (cwV 2 hts (gT_V q_5_50 q_2_161 q_2_162 q_1_6 q_2_163) rfl rfl rfl hdX4_blockOf ⟨Nat.le_of_ble_eq_true rfl, Nat.le_of_ble_eq_true rfl⟩) 6 4 (aX_6 K o10) rfl rfl hl.1 rfl (Nat.le_of_ble_eq_true rfl) dX4_addDirectoryBlock_30 ⟨Nat.le_of_ble_eq_true rfl, Nat.le_of_ble_eq_true rfl⟩ rfl rfl (fun H locs hW => ?_)
  exact gw_reti F hW hf dX4_addDirectoryBlock_33
set_option maxHeartbeats 4000000 in
set_option maxRecDepth 100000 in
theorem mXX4_addDirectoryBlock_6 {l : Launch} {K : KX} {σ : XS} {x1 : Int32} {o : (Int32 × XS)} (hf : fXX4_addDirectoryBlock_6 (kn K) x1 σ = some o) : gw_Mi l (kD K) vwCl (tyX K) (wX K) yX4_addDirectoryBlock wsX4_addDirectoryBlock rXX4_addDirectoryBlock_6 [.ref (ka K 6), .int x1] σ o := by
  intro sz
  refine gw_body (cc := cX4_addDirectoryBlock) (maxL := 3) (yret := some .int) (by decide +kernel) rfl ?_ (Nat.le_of_ble_eq_true rfl)
  intro p e s m below meth c F hsz hW ls hl
  exact wXX4_addDirectoryBlock_6_0 F x1 σ o hf s.heap [] ls hl hW
abbrev rXX5_layDots_7 : Room := { frames := 1, cells := 0, slots := 0, locals := 22 }
set_option maxHeartbeats 4000000 in
set_option maxRecDepth 100000 in
theorem wXX5_layDots_7_0 {p : Program} {l : Launch} {e : Env} {s : State} {m : MethodId} {args : Array Value} {below : List Frame} {meth : Method} {c : Code} {A : Nat → Prop} {K : KX} (F : fx_ p s m args meth c cX5_layDots 6 none RX5 wsX5_layDots) (x1 : Int32) (x2 : Int32) (x3 : Int32) (σ : XS) (o : XS) (hf : fXX5_layDots_7_0 (kn K) x1 x2 x3 σ = some o) (H : Heap) (locs : List Loc) (ls : Array Slot) (hl : lv_has ls 6 [(0, .ref (ka K 7)), (1, .int x1), (2, .int x2), (3, .int x3)]) (hW : gw_ (kD K) vwCl (tyX K) (wX K) A s σ H locs) : W p l e rXX5_layDots_7 s m args below meth c H locs 0 0 (MQ below (gw_Qv (kD K) vwCl (tyX K) (wX K) A o) args s rXX5_layDots_7.cells rXX5_layDots_7.slots A) (F0 m 0 ls []) := by
  have hx := F.1
  have hb := F.2.1
  have hml := F.2.2.2.1
  have hown := F.2.2.2.2.1
  have hts := F.2.2.2.2.2.1
  have hG : ∀ x ∈ gT, x.before args s = true := fun x h => hts x (List.mem_cons_of_mem _ h)
  unfold fXX5_layDots_7_0 at hf
  refine lv_iload_n hx hb dX5_layDots_0 rfl (lv_at hl 1 rfl) ?_
  refine lv_sipush (v := (1024 : Int32)) hx hb dX5_layDots_1 (by decide) ?_
  refine lv_imul hx hb dX5_layDots_4 ?_
  refine lv_istore (lv' := [(4, .int (x1 * (1024 : Int32))), (0, .ref (ka K 7)), (1, .int x1), (2, .int x2), (3, .int x3)]) hx hb dX5_layDots_5 hl (by decide) rfl (fun ls hl => ?_)
  refine lv_aload_n hx hb dX5_layDots_7 rfl (lv_at hl 1 rfl) ?_
  refine gw_get (v := .ref (ka K 1)) F inc_X5 hW 7 5 0 (aX_7 K σ) rfl (by decide) (hG _ q_1_124) (fun _ h9 => h9) rfl dX5_layDots_8 ?_
  refine lv_iload hx hb dX5_layDots_11 (lv_at hl 0 rfl) ?_
  refine lv_iload_n hx hb dX5_layDots_13 rfl (lv_at hl 3 rfl) ?_
  obtain ⟨o1, h2, hf⟩ := gw_bind hf
  refine gw_Vv (As := [.int (x1 * (1024 : Int32)), .int x2]) (mc' := 0) (ms' := 0) F hW (mXX1_put4_1 h2) (cwV 2 hts (gT_V q_5_55 q_4_156 q_4_157 q_1_3 q_4_158) rfl rfl rfl hdX1_put4 ⟨Nat.le_of_ble_eq_true rfl, Nat.le_of_ble_eq_true rfl⟩) 1 1 (aX_1 K σ) rfl rfl hl.1 rfl (Nat.le_of_ble_eq_true rfl) dX5_layDots_14 ⟨Nat.le_of_ble_eq_true rfl, Nat.le_of_ble_eq_true rfl⟩ rfl rfl (fun H locs hW => ?_)
  refine lv_aload_n hx hb dX5_layDots_17 rfl (lv_at hl 1 rfl) ?_
  refine gw_get (v := .ref (ka K 1)) F inc_X5 hW 7 5 0 (aX_7 K o1) rfl (by decide) (hG _ q_1_124) (fun _ h9 => h9) rfl dX5_layDots_18 ?_
  refine lv_iload hx hb dX5_layDots_21 (lv_at hl 0 rfl) ?_
  refine lv_iconst (v := (4 : Int32)) hx hb dX5_layDots_23 (by decide) ?_
  refine lv_iadd hx hb dX5_layDots_24 ?_
  refine lv_bipush (v := (12 : Int32)) hx hb dX5_layDots_25 (by decide) ?_
  obtain ⟨o4, h5, hf⟩ := gw_bind hf
  refine gw_Vv (As := [.int ((x1 * (1024 : Int32)) + (4 : Int32)), .int (12 : Int32)]) (mc' := 0) (ms' := 0) F hW (mXX1_put2_1 h5) (cwV 2 hts (gT_V q_5_56 q_4_160 q_4_161 q_1_3 q_4_162) rfl rfl rfl hdX1_put2 ⟨Nat.le_of_ble_eq_true rfl, Nat.le_of_ble_eq_true rfl⟩) 1 1 (aX_1 K o1) rfl rfl hl.1 rfl (Nat.le_of_ble_eq_true rfl) dX5_layDots_27 ⟨Nat.le_of_ble_eq_true rfl, Nat.le_of_ble_eq_true rfl⟩ rfl rfl (fun H locs hW => ?_)
  refine lv_aload_n hx hb dX5_layDots_30 rfl (lv_at hl 1 rfl) ?_
  refine gw_get (v := .ref (ka K 1)) F inc_X5 hW 7 5 0 (aX_7 K o4) rfl (by decide) (hG _ q_1_124) (fun _ h9 => h9) rfl dX5_layDots_31 ?_
  refine lv_iload hx hb dX5_layDots_34 (lv_at hl 0 rfl) ?_
  refine lv_bipush (v := (6 : Int32)) hx hb dX5_layDots_36 (by decide) ?_
  refine lv_iadd hx hb dX5_layDots_38 ?_
  refine lv_iconst (v := (1 : Int32)) hx hb dX5_layDots_39 (by decide) ?_
  obtain ⟨o7, h8, hf⟩ := gw_bind hf
  refine gw_Vv (As := [.int ((x1 * (1024 : Int32)) + (6 : Int32)), .int (1 : Int32)]) (mc' := 0) (ms' := 0) F hW (mXX1_put_1 h8) (cwV 2 hts (gT_V q_5_57 q_4_219 q_4_220 q_1_3 q_4_221) rfl rfl rfl hdX1_put ⟨Nat.le_of_ble_eq_true rfl, Nat.le_of_ble_eq_true rfl⟩) 1 1 (aX_1 K o4) rfl rfl hl.1 rfl (Nat.le_of_ble_eq_true rfl) dX5_layDots_40 ⟨Nat.le_of_ble_eq_true rfl, Nat.le_of_ble_eq_true rfl⟩ rfl rfl (fun H locs hW => ?_)
  refine lv_aload_n hx hb dX5_layDots_43 rfl (lv_at hl 1 rfl) ?_
  refine gw_get (v := .ref (ka K 1)) F inc_X5 hW 7 5 0 (aX_7 K o7) rfl (by decide) (hG _ q_1_124) (fun _ h9 => h9) rfl dX5_layDots_44 ?_
  refine lv_iload hx hb dX5_layDots_47 (lv_at hl 0 rfl) ?_
  refine lv_bipush (v := (7 : Int32)) hx hb dX5_layDots_49 (by decide) ?_
  refine lv_iadd hx hb dX5_layDots_51 ?_
  refine lv_iconst (v := (2 : Int32)) hx hb dX5_layDots_52 (by decide) ?_
  obtain ⟨o10, h11, hf⟩ := gw_bind hf
  refine gw_Vv (As := [.int ((x1 * (1024 : Int32)) + (7 : Int32)), .int (2 : Int32)]) (mc' := 0) (ms' := 0) F hW (mXX1_put_1 h11) (cwV 2 hts (gT_V q_5_57 q_4_219 q_4_220 q_1_3 q_4_221) rfl rfl rfl hdX1_put ⟨Nat.le_of_ble_eq_true rfl, Nat.le_of_ble_eq_true rfl⟩) 1 1 (aX_1 K o7) rfl rfl hl.1 rfl (Nat.le_of_ble_eq_true rfl) dX5_layDots_53 ⟨Nat.le_of_ble_eq_true rfl, Nat.le_of_ble_eq_true rfl⟩ rfl rfl (fun H locs hW => ?_)
  refine lv_aload_n hx hb dX5_layDots_56 rfl (lv_at hl 1 rfl) ?_
  refine gw_get (v := .ref (ka K 1)) F inc_X5 hW 7 5 0 (aX_7 K o10) rfl (by decide) (hG _ q_1_124) (fun _ h9 => h9) rfl dX5_layDots_57 ?_
  refine lv_iload hx hb dX5_layDots_60 (lv_at hl 0 rfl) ?_
  refine lv_bipush (v := (8 : Int32)) hx hb dX5_layDots_62 (by decide) ?_
  refine lv_iadd hx hb dX5_layDots_64 ?_
  refine lv_bipush (v := (46 : Int32)) hx hb dX5_layDots_65 (by decide) ?_
  obtain ⟨o13, h14, hf⟩ := gw_bind hf
  refine gw_Vv (As := [.int ((x1 * (1024 : Int32)) + (8 : Int32)), .int (46 : Int32)]) (mc' := 0) (ms' := 0) F hW (mXX1_put_1 h14) (cwV 2 hts (gT_V q_5_57 q_4_219 q_4_220 q_1_3 q_4_221) rfl rfl rfl hdX1_put ⟨Nat.le_of_ble_eq_true rfl, Nat.le_of_ble_eq_true rfl⟩) 1 1 (aX_1 K o10) rfl rfl hl.1 rfl (Nat.le_of_ble_eq_true rfl) dX5_layDots_67 ⟨Nat.le_of_ble_eq_true rfl, Nat.le_of_ble_eq_true rfl⟩ rfl rfl (fun H locs hW => ?_)
  refine lv_iload hx hb dX5_layDots_70 (lv_at hl 0 rfl) ?_
  refine lv_bipush (v := (12 : Int32)) hx hb dX5_layDots_72 (by decide) ?_
  refine lv_iadd hx hb dX5_layDots_74 ?_
  refine lv_istore (lv' := [(5, .int ((x1 * (1024 : Int32)) + (12 : Int32))), (4, .int (x1 * (1024 : Int32))), (0, .ref (ka K 7)), (1, .int x1), (2, .int x2), (3, .int x3)]) hx hb dX5_layDots_75 hl (by decide) rfl (fun ls hl => ?_)
  refine lv_aload_n hx hb dX5_layDots_77 rfl (lv_at hl 2 rfl) ?_
  refine gw_get (v := .ref (ka K 1)) F inc_X5 hW 7 5 0 (aX_7 K o13) rfl (by decide) (hG _ q_1_124) (fun _ h9 => h9) rfl dX5_layDots_78 ?_
  refine lv_iload hx hb dX5_layDots_81 (lv_at hl 0 rfl) ?_
  refine lv_iload_n hx hb dX5_layDots_83 rfl (lv_at hl 5 rfl) ?_
  obtain ⟨o16, h17, hf⟩ := gw_bind hf
  refine gw_Vv (As := [.int ((x1 * (1024 : Int32)) + (12 : Int32)), .int x3]) (mc' := 0) (ms' := 0) F hW (mXX1_put4_1 h17) (cwV 2 hts (gT_V q_5_55 q_4_156 q_4_157 q_1_3 q_4_158) rfl rfl rfl hdX1_put4 ⟨Nat.le_of_ble_eq_true rfl, Nat.le_of_ble_eq_true rfl⟩) 1 1 (aX_1 K o13) rfl rfl hl.1 rfl (Nat.le_of_ble_eq_true rfl) dX5_layDots_84 ⟨Nat.le_of_ble_eq_true rfl, Nat.le_of_ble_eq_true rfl⟩ rfl rfl (fun H locs hW => ?_)
  refine lv_aload_n hx hb dX5_layDots_87 rfl (lv_at hl 2 rfl) ?_
  refine gw_get (v := .ref (ka K 1)) F inc_X5 hW 7 5 0 (aX_7 K o16) rfl (by decide) (hG _ q_1_124) (fun _ h9 => h9) rfl dX5_layDots_88 ?_
  refine lv_iload hx hb dX5_layDots_91 (lv_at hl 0 rfl) ?_
  refine lv_iconst (v := (4 : Int32)) hx hb dX5_layDots_93 (by decide) ?_
  refine lv_iadd hx hb dX5_layDots_94 ?_
  refine lv_sipush (v := (1012 : Int32)) hx hb dX5_layDots_95 (by decide) ?_
  obtain ⟨o19, h20, hf⟩ := gw_bind hf
  refine gw_Vv (As := [.int (((x1 * (1024 : Int32)) + (12 : Int32)) + (4 : Int32)), .int (1012 : Int32)]) (mc' := 0) (ms' := 0) F hW (mXX1_put2_1 h20) (cwV 2 hts (gT_V q_5_56 q_4_160 q_4_161 q_1_3 q_4_162) rfl rfl rfl hdX1_put2 ⟨Nat.le_of_ble_eq_true rfl, Nat.le_of_ble_eq_true rfl⟩) 1 1 (aX_1 K o16) rfl rfl hl.1 rfl (Nat.le_of_ble_eq_true rfl) dX5_layDots_98 ⟨Nat.le_of_ble_eq_true rfl, Nat.le_of_ble_eq_true rfl⟩ rfl rfl (fun H locs hW => ?_)
  refine lv_aload_n hx hb dX5_layDots_101 rfl (lv_at hl 2 rfl) ?_
  refine gw_get (v := .ref (ka K 1)) F inc_X5 hW 7 5 0 (aX_7 K o19) rfl (by decide) (hG _ q_1_124) (fun _ h9 => h9) rfl dX5_layDots_102 ?_
  refine lv_iload hx hb dX5_layDots_105 (lv_at hl 0 rfl) ?_
  refine lv_bipush (v := (6 : Int32)) hx hb dX5_layDots_107 (by decide) ?_
  refine lv_iadd hx hb dX5_layDots_109 ?_
  refine lv_iconst (v := (2 : Int32)) hx hb dX5_layDots_110 (by decide) ?_
  obtain ⟨o22, h23, hf⟩ := gw_bind hf
  refine gw_Vv (As := [.int (((x1 * (1024 : Int32)) + (12 : Int32)) + (6 : Int32)), .int (2 : Int32)]) (mc' := 0) (ms' := 0) F hW (mXX1_put_1 h23) (cwV 2 hts (gT_V q_5_57 q_4_219 q_4_220 q_1_3 q_4_221) rfl rfl rfl hdX1_put ⟨Nat.le_of_ble_eq_true rfl, Nat.le_of_ble_eq_true rfl⟩) 1 1 (aX_1 K o19) rfl rfl hl.1 rfl (Nat.le_of_ble_eq_true rfl) dX5_layDots_111 ⟨Nat.le_of_ble_eq_true rfl, Nat.le_of_ble_eq_true rfl⟩ rfl rfl (fun H locs hW => ?_)
  refine lv_aload_n hx hb dX5_layDots_114 rfl (lv_at hl 2 rfl) ?_
  refine gw_get (v := .ref (ka K 1)) F inc_X5 hW 7 5 0 (aX_7 K o22) rfl (by decide) (hG _ q_1_124) (fun _ h9 => h9) rfl dX5_layDots_115 ?_
  refine lv_iload hx hb dX5_layDots_118 (lv_at hl 0 rfl) ?_
  refine lv_bipush (v := (7 : Int32)) hx hb dX5_layDots_120 (by decide) ?_
  refine lv_iadd hx hb dX5_layDots_122 ?_
  refine lv_iconst (v := (2 : Int32)) hx hb dX5_layDots_123 (by decide) ?_
  obtain ⟨o25, h26, hf⟩ := gw_bind hf
  refine gw_Vv (As := [.int (((x1 * (1024 : Int32)) + (12 : Int32)) + (7 : Int32)), .int (2 : Int32)]) (mc' := 0) (ms' := 0) F hW (mXX1_put_1 h26) (cwV 2 hts (gT_V q_5_57 q_4_219 q_4_220 q_1_3 q_4_221) rfl rfl rfl hdX1_put ⟨Nat.le_of_ble_eq_true rfl, Nat.le_of_ble_eq_true rfl⟩) 1 1 (aX_1 K o22) rfl rfl hl.1 rfl (Nat.le_of_ble_eq_true rfl) dX5_layDots_124 ⟨Nat.le_of_ble_eq_true rfl, Nat.le_of_ble_eq_true rfl⟩ rfl rfl (fun H locs hW => ?_)
  refine lv_aload_n hx hb dX5_layDots_127 rfl (lv_at hl 2 rfl) ?_
  refine gw_get (v := .ref (ka K 1)) F inc_X5 hW 7 5 0 (aX_7 K o25) rfl (by decide) (hG _ q_1_124) (fun _ h9 => h9) rfl dX5_layDots_128 ?_
  refine lv_iload hx hb dX5_layDots_131 (lv_at hl 0 rfl) ?_
  refine lv_bipush (v := (8 : Int32)) hx hb dX5_layDots_133 (by decide) ?_
  refine lv_iadd hx hb dX5_layDots_135 ?_
  refine lv_sipush (v := (11822 : Int32)) hx hb dX5_layDots_136 (by decide) ?_
  obtain ⟨o28, h29, hf⟩ := gw_bind hf
  refine gw_Vv (As := [.int (((x1 * (1024 : Int32)) + (12 : Int32)) + (8 : Int32)), .int (11822 : Int32)]) (mc' := 0) (ms' := 0) F hW (mXX1_put2_1 h29) (cwV 2 hts (gT_V q_5_56 q_4_160 q_4_161 q_1_3 q_4_162) rfl rfl rfl hdX1_put2 ⟨Nat.le_of_ble_eq_true rfl, Nat.le_of_ble_eq_true rfl⟩) 1 1 (aX_1 K o25) rfl rfl hl.1 rfl (Nat.le_of_ble_eq_true rfl) dX5_layDots_139 ⟨Nat.le_of_ble_eq_true rfl, Nat.le_of_ble_eq_true rfl⟩ rfl rfl (fun H locs hW => ?_)
  exact gw_retv F hW hf dX5_layDots_142
set_option maxHeartbeats 4000000 in
set_option maxRecDepth 100000 in
theorem mXX5_layDots_7 {l : Launch} {K : KX} {σ : XS} {x1 : Int32} {x2 : Int32} {x3 : Int32} {o : XS} (hf : fXX5_layDots_7 (kn K) x1 x2 x3 σ = some o) : gw_Mv l (kD K) vwCl (tyX K) (wX K) yX5_layDots wsX5_layDots rXX5_layDots_7 [.ref (ka K 7), .int x1, .int x2, .int x3] σ o := by
  intro sz
  refine gw_body (cc := cX5_layDots) (maxL := 6) (yret := none) (by decide +kernel) rfl ?_ (Nat.le_of_ble_eq_true rfl)
  intro p e s m below meth c F hsz hW ls hl
  exact wXX5_layDots_7_0 F x1 x2 x3 σ o hf s.heap [] ls hl hW
abbrev rXX3_free_4 : Room := { frames := 1, cells := 0, slots := 0, locals := 21 }
set_option maxHeartbeats 4000000 in
set_option maxRecDepth 100000 in
theorem wXX3_free_4_0 {p : Program} {l : Launch} {e : Env} {s : State} {m : MethodId} {args : Array Value} {below : List Frame} {meth : Method} {c : Code} {A : Nat → Prop} {K : KX} (F : fx_ p s m args meth c cX3_free 1 (some .int) RX3 wsX3_free) (σ : XS) (o : (Int32 × XS)) (hf : fXX3_free_4_0 (kn K) σ = some o) (H : Heap) (locs : List Loc) (ls : Array Slot) (hl : lv_has ls 1 [(0, .ref (ka K 4))]) (hW : gw_ (kD K) vwCl (tyX K) (wX K) A s σ H locs) : W p l e rXX3_free_4 s m args below meth c H locs 0 0 (MQ below (gw_Qi (kD K) vwCl (tyX K) (wX K) A o) args s rXX3_free_4.cells rXX3_free_4.slots A) (F0 m 0 ls []) := by
  have hx := F.1
  have hb := F.2.1
  have hml := F.2.2.2.1
  have hown := F.2.2.2.2.1
  have hts := F.2.2.2.2.2.1
  have hG : ∀ x ∈ gT, x.before args s = true := fun x h => hts x (List.mem_cons_of_mem _ h)
  unfold fXX3_free_4_0 at hf
  refine lv_aload_n hx hb dX3_free_0 rfl (lv_at hl 0 rfl) ?_
  refine gw_get (v := .ref (ka K 1)) F inc_X3 hW 4 3 0 (aX_4 K σ) rfl (by decide) (hG _ q_1_83) (fun _ h9 => h9) rfl dX3_free_1 ?_
  refine lv_sipush (v := (1024 : Int32)) hx hb dX3_free_4 (by decide) ?_
  refine lv_aload_n hx hb dX3_free_7 rfl (lv_at hl 0 rfl) ?_
  refine gw_get (v := .int (12 : Int32)) F inc_X3 hW 4 3 3 (aX_4 K σ) rfl (by decide) (hG _ q_1_86) (fun _ h9 => h9) rfl dX3_free_8 ?_
  refine lv_iadd hx hb dX3_free_11 ?_
  obtain ⟨o1, h2, hf⟩ := gw_bind hf
  refine gw_Vi (As := [.int ((1024 : Int32) + (12 : Int32))]) (mc' := 0) (ms' := 0) F hW (mXX1_get4_1 h2) (cwV 1 hts (gT_V q_4_188 q_2_114 q_2_115 q_1_3 q_2_116) rfl rfl rfl hdX1_get4 ⟨Nat.le_of_ble_eq_true rfl, Nat.le_of_ble_eq_true rfl⟩) 1 1 (aX_1 K σ) rfl rfl hl.1 rfl (Nat.le_of_ble_eq_true rfl) dX3_free_12 ⟨Nat.le_of_ble_eq_true rfl, Nat.le_of_ble_eq_true rfl⟩ rfl rfl (fun H locs hW => ?_)
  exact gw_reti F hW hf dX3_free_15
set_option maxHeartbeats 4000000 in
set_option maxRecDepth 100000 in
theorem mXX3_free_4 {l : Launch} {K : KX} {σ : XS} {o : (Int32 × XS)} (hf : fXX3_free_4 (kn K) σ = some o) : gw_Mi l (kD K) vwCl (tyX K) (wX K) yX3_free wsX3_free rXX3_free_4 [.ref (ka K 4)] σ o := by
  intro sz
  refine gw_body (cc := cX3_free) (maxL := 1) (yret := some .int) (by decide +kernel) rfl ?_ (Nat.le_of_ble_eq_true rfl)
  intro p e s m below meth c F hsz hW ls hl
  exact wXX3_free_4_0 F σ o hf s.heap [] ls hl hW
abbrev rXX3_mark_5 : Room := { frames := 1, cells := 0, slots := 0, locals := 22 }
def PXX3_mark_5_113 (p : Program) (l : Launch) (e : Env) (s : State) (m : MethodId) (args : Array Value) (below : List Frame) (meth : Method) (c : Code) (A : Nat → Prop) (K : KX) (t : (Int32 × Int32 × Int32 × XS)) (o : XS) : Prop := ∀ (H : Heap) (locs : List Loc) (ls : Array Slot), lv_has ls 11 [(0, .ref (ka K 5)), (3, .int t.1), (7, .int t.2.1), (8, .int t.2.2.1)] → gw_ (kD K) vwCl (tyX K) (wX K) A s t.2.2.2 H locs → W p l e rXX3_mark_5 s m args below meth c H locs 0 0 (MQ below (gw_Qv (kD K) vwCl (tyX K) (wX K) A o) args s rXX3_mark_5.cells rXX3_mark_5.slots A) (F0 m 113 ls [])
set_option maxHeartbeats 4000000 in
set_option maxRecDepth 100000 in
theorem wXX3_mark_5_113 {p : Program} {l : Launch} {e : Env} {s : State} {m : MethodId} {args : Array Value} {below : List Frame} {meth : Method} {c : Code} {A : Nat → Prop} {K : KX} (F : fx_ p s m args meth c cX3_mark 11 none RX3 wsX3_mark) {k113 : (Int32 × Int32 × Int32 × XS) → Option XS} (hk113 : ∀ t o, k113 t = some o → PXX3_mark_5_113 p l e s m args below meth c A K t o) (x3 : Int32) (x7 : Int32) (x8 : Int32) (σ : XS) (o : XS) (hf : fXX3_mark_5_113 (kn K) k113 x3 x7 x8 σ = some o) (H : Heap) (locs : List Loc) (ls : Array Slot) (hl : lv_has ls 11 [(0, .ref (ka K 5)), (3, .int x3), (7, .int x7), (8, .int x8)]) (hW : gw_ (kD K) vwCl (tyX K) (wX K) A s σ H locs) : W p l e rXX3_mark_5 s m args below meth c H locs 0 0 (MQ below (gw_Qv (kD K) vwCl (tyX K) (wX K) A o) args s rXX3_mark_5.cells rXX3_mark_5.slots A) (F0 m 113 ls []) := by
  have hx := F.1
  have hb := F.2.1
  have hml := F.2.2.2.1
  have hown := F.2.2.2.2.1
  have hts := F.2.2.2.2.2.1
  have hG : ∀ x ∈ gT, x.before args s = true := fun x h => hts x (List.mem_cons_of_mem _ h)
  unfold fXX3_mark_5_113 at hf
  refine lv_iload hx hb dX3_mark_113 (lv_at hl 3 rfl) ?_
  refine lv_aload_n hx hb dX3_mark_115 rfl (lv_at hl 0 rfl) ?_
  refine gw_get (v := .ref (ka K 3)) F inc_X3 hW 5 3 1 (aX_5 K σ) rfl (by decide) (hG _ q_1_84) (fun _ h9 => h9) rfl dX3_mark_116 ?_
  obtain ⟨o21, h22, hf⟩ := gw_bind hf
  refine gw_Vi (As := []) (mc' := 0) (ms' := 0) F hW (mXX2_groups_3 h22) (cwV 0 hts (gT_V q_4_216 q_2_74 q_2_75 q_1_4 q_2_76) rfl rfl rfl hdX2_groups ⟨Nat.le_of_ble_eq_true rfl, Nat.le_of_ble_eq_true rfl⟩) 3 2 (aX_3 K σ) rfl rfl hl.1 rfl (Nat.le_of_ble_eq_true rfl) dX3_mark_119 ⟨Nat.le_of_ble_eq_true rfl, Nat.le_of_ble_eq_true rfl⟩ rfl rfl (fun H locs hW => ?_)
  refine lv_icmp_ge (tgt := 212) hx hb dX3_mark_122 (by decide) (fun c24 => ?_) (fun c24 => ?_)
  · replace hf := (if_pos c24).symm.trans hf
    exact gw_retv F hW hf dX3_mark_212
  · replace hf := (if_neg c24).symm.trans hf
    refine lv_aload_n hx hb dX3_mark_125 rfl (lv_at hl 0 rfl) ?_
    refine gw_get (v := .ref (ka K 3)) F inc_X3 hW 5 3 1 (aX_5 K o21.2) rfl (by decide) (hG _ q_1_84) (fun _ h9 => h9) rfl dX3_mark_126 ?_
    refine lv_iload hx hb dX3_mark_129 (lv_at hl 3 rfl) ?_
    refine lv_iconst (v := (0 : Int32)) hx hb dX3_mark_131 (by decide) ?_
    obtain ⟨o25, h26, hf⟩ := gw_bind hf
    refine gw_Vi (As := [.int x8, .int (0 : Int32)]) (mc' := 0) (ms' := 0) F hW (mXX2_partAt_3 h26) (cwV 2 hts (gT_V q_2_51 q_2_52 q_2_53 q_1_4 q_2_54) rfl rfl rfl hdX2_partAt ⟨Nat.le_of_ble_eq_true rfl, Nat.le_of_ble_eq_true rfl⟩) 3 2 (aX_3 K o21.2) rfl rfl hl.1 rfl (Nat.le_of_ble_eq_true rfl) dX3_mark_132 ⟨Nat.le_of_ble_eq_true rfl, Nat.le_of_ble_eq_true rfl⟩ rfl rfl (fun H locs hW => ?_)
    refine lv_aload_n hx hb dX3_mark_135 rfl (lv_at hl 0 rfl) ?_
    refine gw_get (v := .int (16 : Int32)) F inc_X3 hW 5 3 3 (aX_5 K o25.2) rfl (by decide) (hG _ q_1_86) (fun _ h9 => h9) rfl dX3_mark_136 ?_
    refine lv_iadd hx hb dX3_mark_139 ?_
    refine lv_istore (lv' := [(9, .int (o25.1 + (16 : Int32))), (0, .ref (ka K 5)), (3, .int x3), (7, .int x7), (8, .int x8)]) hx hb dX3_mark_140 hl (by decide) rfl (fun ls hl => ?_)
    refine lv_aload_n hx hb dX3_mark_142 rfl (lv_at hl 1 rfl) ?_
    refine gw_get (v := .ref (ka K 3)) F inc_X3 hW 5 3 1 (aX_5 K o25.2) rfl (by decide) (hG _ q_1_84) (fun _ h9 => h9) rfl dX3_mark_143 ?_
    refine lv_iload hx hb dX3_mark_146 (lv_at hl 4 rfl) ?_
    refine lv_iconst (v := (1 : Int32)) hx hb dX3_mark_148 (by decide) ?_
    obtain ⟨o28, h29, hf⟩ := gw_bind hf
    refine gw_Vi (As := [.int x8, .int (1 : Int32)]) (mc' := 0) (ms' := 0) F hW (mXX2_partAt_3 h29) (cwV 2 hts (gT_V q_2_51 q_2_52 q_2_53 q_1_4 q_2_54) rfl rfl rfl hdX2_partAt ⟨Nat.le_of_ble_eq_true rfl, Nat.le_of_ble_eq_true rfl⟩) 3 2 (aX_3 K o25.2) rfl rfl hl.1 rfl (Nat.le_of_ble_eq_true rfl) dX3_mark_149 ⟨Nat.le_of_ble_eq_true rfl, Nat.le_of_ble_eq_true rfl⟩ rfl rfl (fun H locs hW => ?_)
    refine lv_bipush (v := (32 : Int32)) hx hb dX3_mark_152 (by decide) ?_
    refine lv_iload_n hx hb dX3_mark_154 rfl (lv_at hl 2 rfl) ?_
    refine lv_imul hx hb dX3_mark_155 ?_
    refine lv_iadd hx hb dX3_mark_156 ?_
    refine lv_aload_n hx hb dX3_mark_157 rfl (lv_at hl 1 rfl) ?_
    refine gw_get (v := .int (14 : Int32)) F inc_X3 hW 5 3 4 (aX_5 K o28.2) rfl (by decide) (hG _ q_1_87) (fun _ h9 => h9) rfl dX3_mark_158 ?_
    refine lv_iadd hx hb dX3_mark_161 ?_
    refine lv_istore (lv' := [(10, .int ((o28.1 + ((32 : Int32) * x3)) + (14 : Int32))), (9, .int (o25.1 + (16 : Int32))), (0, .ref (ka K 5)), (3, .int x3), (7, .int x7), (8, .int x8)]) hx hb dX3_mark_162 hl (by decide) rfl (fun ls hl => ?_)
    refine lv_aload_n hx hb dX3_mark_164 rfl (lv_at hl 2 rfl) ?_
    refine gw_get (v := .ref (ka K 1)) F inc_X3 hW 5 3 0 (aX_5 K o28.2) rfl (by decide) (hG _ q_1_83) (fun _ h9 => h9) rfl dX3_mark_165 ?_
    refine lv_iload hx hb dX3_mark_168 (lv_at hl 1 rfl) ?_
    refine lv_aload_n hx hb dX3_mark_170 rfl (lv_at hl 2 rfl) ?_
    refine gw_get (v := .ref (ka K 1)) F inc_X3 hW 5 3 0 (aX_5 K o28.2) rfl (by decide) (hG _ q_1_83) (fun _ h9 => h9) rfl dX3_mark_171 ?_
    refine lv_iload hx hb dX3_mark_174 (lv_at hl 1 rfl) ?_
    obtain ⟨o31, h32, hf⟩ := gw_bind hf
    refine gw_Vi (As := [.int (o25.1 + (16 : Int32))]) (mc' := 0) (ms' := 0) F hW (mXX1_get4_1 h32) (cwV 1 hts (gT_V q_4_188 q_2_114 q_2_115 q_1_3 q_2_116) rfl rfl rfl hdX1_get4 ⟨Nat.le_of_ble_eq_true rfl, Nat.le_of_ble_eq_true rfl⟩) 1 1 (aX_1 K o28.2) rfl rfl hl.1 rfl (Nat.le_of_ble_eq_true rfl) dX3_mark_176 ⟨Nat.le_of_ble_eq_true rfl, Nat.le_of_ble_eq_true rfl⟩ rfl rfl (fun H locs hW => ?_)
    refine lv_iload hx hb dX3_mark_179 (lv_at hl 4 rfl) ?_
    refine lv_iadd hx hb dX3_mark_181 ?_
    obtain ⟨o34, h35, hf⟩ := gw_bind hf
    refine gw_Vv (As := [.int (o25.1 + (16 : Int32)), .int (o31.1 + x7)]) (mc' := 0) (ms' := 0) F hW (mXX1_put4_1 h35) (cwV 2 hts (gT_V q_5_4 q_4_156 q_4_157 q_1_3 q_4_158) rfl rfl rfl hdX1_put4 ⟨Nat.le_of_ble_eq_true rfl, Nat.le_of_ble_eq_true rfl⟩) 1 1 (aX_1 K o31.2) rfl rfl hl.1 rfl (Nat.le_of_ble_eq_true rfl) dX3_mark_182 ⟨Nat.le_of_ble_eq_true rfl, Nat.le_of_ble_eq_true rfl⟩ rfl rfl (fun H locs hW => ?_)
    refine lv_aload_n hx hb dX3_mark_185 rfl (lv_at hl 2 rfl) ?_
    refine gw_get (v := .ref (ka K 1)) F inc_X3 hW 5 3 0 (aX_5 K o34) rfl (by decide) (hG _ q_1_83) (fun _ h9 => h9) rfl dX3_mark_186 ?_
    refine lv_iload hx hb dX3_mark_189 (lv_at hl 0 rfl) ?_
    refine lv_aload_n hx hb dX3_mark_191 rfl (lv_at hl 2 rfl) ?_
    refine gw_get (v := .ref (ka K 1)) F inc_X3 hW 5 3 0 (aX_5 K o34) rfl (by decide) (hG _ q_1_83) (fun _ h9 => h9) rfl dX3_mark_192 ?_
    refine lv_iload hx hb dX3_mark_195 (lv_at hl 0 rfl) ?_
    obtain ⟨o37, h38, hf⟩ := gw_bind hf
    refine gw_Vi (As := [.int ((o28.1 + ((32 : Int32) * x3)) + (14 : Int32))]) (mc' := 0) (ms' := 0) F hW (mXX1_get2_1 h38) (cwV 1 hts (gT_V q_5_5 q_2_110 q_2_111 q_1_3 q_2_112) rfl rfl rfl hdX1_get2 ⟨Nat.le_of_ble_eq_true rfl, Nat.le_of_ble_eq_true rfl⟩) 1 1 (aX_1 K o34) rfl rfl hl.1 rfl (Nat.le_of_ble_eq_true rfl) dX3_mark_197 ⟨Nat.le_of_ble_eq_true rfl, Nat.le_of_ble_eq_true rfl⟩ rfl rfl (fun H locs hW => ?_)
    refine lv_iload hx hb dX3_mark_200 (lv_at hl 4 rfl) ?_
    refine lv_iadd hx hb dX3_mark_202 ?_
    obtain ⟨o40, h41, hf⟩ := gw_bind hf
    refine gw_Vv (As := [.int ((o28.1 + ((32 : Int32) * x3)) + (14 : Int32)), .int (o37.1 + x7)]) (mc' := 0) (ms' := 0) F hW (mXX1_put2_1 h41) (cwV 2 hts (gT_V q_5_6 q_4_160 q_4_161 q_1_3 q_4_162) rfl rfl rfl hdX1_put2 ⟨Nat.le_of_ble_eq_true rfl, Nat.le_of_ble_eq_true rfl⟩) 1 1 (aX_1 K o37.2) rfl rfl hl.1 rfl (Nat.le_of_ble_eq_true rfl) dX3_mark_203 ⟨Nat.le_of_ble_eq_true rfl, Nat.le_of_ble_eq_true rfl⟩ rfl rfl (fun H locs hW => ?_)
    refine lv_iinc (v := (x8 + (1 : Int32))) (lv' := [(8, .int (x8 + (1 : Int32))), (10, .int ((o28.1 + ((32 : Int32) * x3)) + (14 : Int32))), (9, .int (o25.1 + (16 : Int32))), (0, .ref (ka K 5)), (3, .int x3), (7, .int x7)]) hx hb dX3_mark_206 hl (k := 5) rfl rfl (by decide) rfl (fun ls hl => ?_)
    refine lv_goto (tgt := 113) hx hb dX3_mark_209 (by decide) ?_
    exact hk113 _ _ hf _ _ _ (lv_sub hl [3, 4, 5, 0] rfl) hW
set_option maxHeartbeats 4000000 in
set_option maxRecDepth 100000 in
theorem wXX3_mark_5_108 {p : Program} {l : Launch} {e : Env} {s : State} {m : MethodId} {args : Array Value} {below : List Frame} {meth : Method} {c : Code} {A : Nat → Prop} {K : KX} (F : fx_ p s m args meth c cX3_mark 11 none RX3 wsX3_mark) (x3 : Int32) (y0 : Int32) (σ : XS) (o : XS) (hf : fXX3_mark_5_108 (kn K) x3 y0 σ = some o) (H : Heap) (locs : List Loc) (ls : Array Slot) (hl : lv_has ls 11 [(0, .ref (ka K 5)), (3, .int x3)]) (hW : gw_ (kD K) vwCl (tyX K) (wX K) A s σ H locs) : W p l e rXX3_mark_5 s m args below meth c H locs 0 0 (MQ below (gw_Qv (kD K) vwCl (tyX K) (wX K) A o) args s rXX3_mark_5.cells rXX3_mark_5.slots A) (F0 m 108 ls [.int y0]) := by
  have hx := F.1
  have hb := F.2.1
  have hml := F.2.2.2.1
  have hown := F.2.2.2.2.1
  have hts := F.2.2.2.2.2.1
  have hG : ∀ x ∈ gT, x.before args s = true := fun x h => hts x (List.mem_cons_of_mem _ h)
  unfold fXX3_mark_5_108 at hf
  refine lv_istore (lv' := [(7, .int y0), (0, .ref (ka K 5)), (3, .int x3)]) hx hb dX3_mark_108 hl (by decide) rfl (fun ls hl => ?_)
  refine lv_iconst (v := (0 : Int32)) hx hb dX3_mark_110 (by decide) ?_
  refine lv_istore (lv' := [(8, .int (0 : Int32)), (7, .int y0), (0, .ref (ka K 5)), (3, .int x3)]) hx hb dX3_mark_111 hl (by decide) rfl (fun ls hl => ?_)
  exact lfix_ind (P := PXX3_mark_5_113 p l e s m args below meth c A K) (fun k113 hk113 t o hf => wXX3_mark_5_113 F hk113 t.1 t.2.1 t.2.2.1 t.2.2.2 o hf) FU _ _ hf _ _ _ (lv_sub hl [2, 3, 1, 0] rfl) hW
set_option maxHeartbeats 4000000 in
set_option maxRecDepth 100000 in
theorem wXX3_mark_5_96 {p : Program} {l : Launch} {e : Env} {s : State} {m : MethodId} {args : Array Value} {below : List Frame} {meth : Method} {c : Code} {A : Nat → Prop} {K : KX} (F : fx_ p s m args meth c cX3_mark 11 none RX3 wsX3_mark) (x2 : Int32) (x3 : Int32) (y0 : Int32) (y1 : Int32) (σ : XS) (o : XS) (hf : fXX3_mark_5_96 (kn K) x2 x3 y0 y1 σ = some o) (H : Heap) (locs : List Loc) (ls : Array Slot) (hl : lv_has ls 11 [(0, .ref (ka K 5)), (2, .int x2), (3, .int x3)]) (hW : gw_ (kD K) vwCl (tyX K) (wX K) A s σ H locs) : W p l e rXX3_mark_5 s m args below meth c H locs 0 0 (MQ below (gw_Qv (kD K) vwCl (tyX K) (wX K) A o) args s rXX3_mark_5.cells rXX3_mark_5.slots A) (F0 m 96 ls [.int y0, .int y1, .ref (ka K 1)]) := by
  have hx := F.1
  have hb := F.2.1
  have hml := F.2.2.2.1
  have hown := F.2.2.2.2.1
  have hts := F.2.2.2.2.2.1
  have hG : ∀ x ∈ gT, x.before args s = true := fun x h => hts x (List.mem_cons_of_mem _ h)
  unfold fXX3_mark_5_96 at hf
  obtain ⟨o17, h18, hf⟩ := gw_bind hf
  refine gw_Vv (As := [.int y1, .int y0]) (mc' := 0) (ms' := 0) F hW (mXX1_put_1 h18) (cwV 2 hts (gT_V q_4_218 q_4_219 q_4_220 q_1_3 q_4_221) rfl rfl rfl hdX1_put ⟨Nat.le_of_ble_eq_true rfl, Nat.le_of_ble_eq_true rfl⟩) 1 1 (aX_1 K σ) rfl rfl hl.1 rfl (Nat.le_of_ble_eq_true rfl) dX3_mark_96 ⟨Nat.le_of_ble_eq_true rfl, Nat.le_of_ble_eq_true rfl⟩ rfl rfl (fun H locs hW => ?_)
  refine lv_iload_n hx hb dX3_mark_99 rfl (lv_at hl 1 rfl) ?_
  refine lv_if_eq (tgt := 107) hx hb dX3_mark_100 (by decide) (fun c20 => ?_) (fun c20 => ?_)
  · replace hf := (if_pos c20).symm.trans hf
    refine lv_iconst (v := (1 : Int32)) hx hb dX3_mark_107 (by decide) ?_
    exact wXX3_mark_5_108 F x3 (1 : Int32) _ _ hf _ _ _ (lv_sub hl [0, 2] rfl) hW
  · replace hf := (if_neg c20).symm.trans hf
    refine lv_iconst (v := (-1 : Int32)) hx hb dX3_mark_103 (by decide) ?_
    refine lv_goto (tgt := 108) hx hb dX3_mark_104 (by decide) ?_
    exact wXX3_mark_5_108 F x3 (-1 : Int32) _ _ hf _ _ _ (lv_sub hl [0, 2] rfl) hW
set_option maxHeartbeats 4000000 in
set_option maxRecDepth 100000 in
theorem wXX3_mark_5_57 {p : Program} {l : Launch} {e : Env} {s : State} {m : MethodId} {args : Array Value} {below : List Frame} {meth : Method} {c : Code} {A : Nat → Prop} {K : KX} (F : fx_ p s m args meth c cX3_mark 11 none RX3 wsX3_mark) (x2 : Int32) (x3 : Int32) (x5 : Int32) (x6 : Int32) (σ : XS) (o : XS) (hf : fXX3_mark_5_57 (kn K) x2 x3 x5 x6 σ = some o) (H : Heap) (locs : List Loc) (ls : Array Slot) (hl : lv_has ls 11 [(0, .ref (ka K 5)), (2, .int x2), (3, .int x3), (5, .int x5), (6, .int x6)]) (hW : gw_ (kD K) vwCl (tyX K) (wX K) A s σ H locs) : W p l e rXX3_mark_5 s m args below meth c H locs 0 0 (MQ below (gw_Qv (kD K) vwCl (tyX K) (wX K) A o) args s rXX3_mark_5.cells rXX3_mark_5.slots A) (F0 m 57 ls []) := by
  have hx := F.1
  have hb := F.2.1
  have hml := F.2.2.2.1
  have hown := F.2.2.2.2.1
  have hts := F.2.2.2.2.2.1
  have hG : ∀ x ∈ gT, x.before args s = true := fun x h => hts x (List.mem_cons_of_mem _ h)
  unfold fXX3_mark_5_57 at hf
  refine lv_aload_n hx hb dX3_mark_57 rfl (lv_at hl 0 rfl) ?_
  refine gw_get (v := .ref (ka K 1)) F inc_X3 hW 5 3 0 (aX_5 K σ) rfl (by decide) (hG _ q_1_83) (fun _ h9 => h9) rfl dX3_mark_58 ?_
  refine lv_iload hx hb dX3_mark_61 (lv_at hl 3 rfl) ?_
  refine lv_iload_n hx hb dX3_mark_63 rfl (lv_at hl 1 rfl) ?_
  refine lv_if_eq (tgt := 82) hx hb dX3_mark_64 (by decide) (fun c13 => ?_) (fun c13 => ?_)
  · replace hf := (if_pos c13).symm.trans hf
    refine lv_aload_n hx hb dX3_mark_82 rfl (lv_at hl 0 rfl) ?_
    refine gw_get (v := .ref (ka K 1)) F inc_X3 hW 5 3 0 (aX_5 K σ) rfl (by decide) (hG _ q_1_83) (fun _ h9 => h9) rfl dX3_mark_83 ?_
    refine lv_iload hx hb dX3_mark_86 (lv_at hl 3 rfl) ?_
    obtain ⟨o14, h15, hf⟩ := gw_bind hf
    refine gw_Vi (As := [.int x5]) (mc' := 0) (ms' := 0) F hW (mXX1_get_1 h15) (cwV 1 hts (gT_V q_2_55 q_2_56 q_2_57 q_1_3 q_2_58) rfl rfl rfl hdX1_get ⟨Nat.le_of_ble_eq_true rfl, Nat.le_of_ble_eq_true rfl⟩) 1 1 (aX_1 K σ) rfl rfl hl.1 rfl (Nat.le_of_ble_eq_true rfl) dX3_mark_88 ⟨Nat.le_of_ble_eq_true rfl, Nat.le_of_ble_eq_true rfl⟩ rfl rfl (fun H locs hW => ?_)
    refine lv_iload hx hb dX3_mark_91 (lv_at hl 4 rfl) ?_
    refine lv_iconst (v := (-1 : Int32)) hx hb dX3_mark_93 (by decide) ?_
    refine lv_ixor hx hb dX3_mark_94 ?_
    refine lv_iand hx hb dX3_mark_95 ?_
    exact wXX3_mark_5_96 F x2 x3 (o14.1 &&& (x6 ^^^ (-1 : Int32))) x5 _ _ hf _ _ _ (lv_sub hl [0, 1, 2] rfl) hW
  · replace hf := (if_neg c13).symm.trans hf
    refine lv_aload_n hx hb dX3_mark_67 rfl (lv_at hl 0 rfl) ?_
    refine gw_get (v := .ref (ka K 1)) F inc_X3 hW 5 3 0 (aX_5 K σ) rfl (by decide) (hG _ q_1_83) (fun _ h9 => h9) rfl dX3_mark_68 ?_
    refine lv_iload hx hb dX3_mark_71 (lv_at hl 3 rfl) ?_
    obtain ⟨o43, h44, hf⟩ := gw_bind hf
    refine gw_Vi (As := [.int x5]) (mc' := 0) (ms' := 0) F hW (mXX1_get_1 h44) (cwV 1 hts (gT_V q_2_55 q_2_56 q_2_57 q_1_3 q_2_58) rfl rfl rfl hdX1_get ⟨Nat.le_of_ble_eq_true rfl, Nat.le_of_ble_eq_true rfl⟩) 1 1 (aX_1 K σ) rfl rfl hl.1 rfl (Nat.le_of_ble_eq_true rfl) dX3_mark_73 ⟨Nat.le_of_ble_eq_true rfl, Nat.le_of_ble_eq_true rfl⟩ rfl rfl (fun H locs hW => ?_)
    refine lv_iload hx hb dX3_mark_76 (lv_at hl 4 rfl) ?_
    refine lv_ior hx hb dX3_mark_78 ?_
    refine lv_goto (tgt := 96) hx hb dX3_mark_79 (by decide) ?_
    exact wXX3_mark_5_96 F x2 x3 (o43.1 ||| x6) x5 _ _ hf _ _ _ (lv_sub hl [0, 1, 2] rfl) hW
set_option maxHeartbeats 4000000 in
set_option maxRecDepth 100000 in
theorem wXX3_mark_5_0 {p : Program} {l : Launch} {e : Env} {s : State} {m : MethodId} {args : Array Value} {below : List Frame} {meth : Method} {c : Code} {A : Nat → Prop} {K : KX} (F : fx_ p s m args meth c cX3_mark 11 none RX3 wsX3_mark) (x1 : Int32) (x2 : Int32) (σ : XS) (o : XS) (hf : fXX3_mark_5_0 (kn K) x1 x2 σ = some o) (H : Heap) (locs : List Loc) (ls : Array Slot) (hl : lv_has ls 11 [(0, .ref (ka K 5)), (1, .int x1), (2, .int x2)]) (hW : gw_ (kD K) vwCl (tyX K) (wX K) A s σ H locs) : W p l e rXX3_mark_5 s m args below meth c H locs 0 0 (MQ below (gw_Qv (kD K) vwCl (tyX K) (wX K) A o) args s rXX3_mark_5.cells rXX3_mark_5.slots A) (F0 m 0 ls []) := by
  have hx := F.1
  have hb := F.2.1
  have hml := F.2.2.2.1
  have hown := F.2.2.2.2.1
  have hts := F.2.2.2.2.2.1
  have hG : ∀ x ∈ gT, x.before args s = true := fun x h => hts x (List.mem_cons_of_mem _ h)
  unfold fXX3_mark_5_0 at hf
  refine lv_aload_n hx hb dX3_mark_0 rfl (lv_at hl 0 rfl) ?_
  refine gw_get (v := .int (σ.1 6)) F inc_X3 hW 5 3 5 (aX_5 K σ) rfl (by decide) (hG _ q_1_88) (fun _ h9 => h9) rfl dX3_mark_1 ?_
  refine lv_iconst (v := (1 : Int32)) hx hb dX3_mark_4 (by decide) ?_
  refine lv_icmp_ge (tgt := 9) hx hb dX3_mark_5 (by decide) (fun c7 => ?_) (fun c7 => ?_)
  · replace hf := (if_pos c7).symm.trans hf
    refine lv_iload_n hx hb dX3_mark_9 rfl (lv_at hl 1 rfl) ?_
    refine lv_iconst (v := (1 : Int32)) hx hb dX3_mark_10 (by decide) ?_
    refine lv_isub hx hb dX3_mark_11 ?_
    refine lv_aload_n hx hb dX3_mark_12 rfl (lv_at hl 0 rfl) ?_
    refine gw_get (v := .int (σ.1 6)) F inc_X3 hW 5 3 5 (aX_5 K σ) rfl (by decide) (hG _ q_1_88) (fun _ h9 => h9) rfl dX3_mark_13 ?_
    rcases Decidable.em ((σ.1 6) = 0) with c8 | c8
    · replace hf := (if_pos c8).symm.trans hf
      exact absurd hf (by simp)
    · replace hf := (if_neg c8).symm.trans hf
      refine lv_idiv hx hb dX3_mark_16 c8 ?_
      refine lv_istore_n (lv' := [(3, .int ((x1 - (1 : Int32)) / (σ.1 6))), (0, .ref (ka K 5)), (1, .int x1), (2, .int x2)]) hx hb dX3_mark_17 rfl hl (by decide) rfl (fun ls hl => ?_)
      refine lv_iload_n hx hb dX3_mark_18 rfl (lv_at hl 2 rfl) ?_
      refine lv_iconst (v := (1 : Int32)) hx hb dX3_mark_19 (by decide) ?_
      refine lv_isub hx hb dX3_mark_20 ?_
      refine lv_aload_n hx hb dX3_mark_21 rfl (lv_at hl 1 rfl) ?_
      refine gw_get (v := .int (σ.1 6)) F inc_X3 hW 5 3 5 (aX_5 K σ) rfl (by decide) (hG _ q_1_88) (fun _ h9 => h9) rfl dX3_mark_22 ?_
      rcases Decidable.em ((σ.1 6) = 0) with c9 | c9
      · replace hf := (if_pos c9).symm.trans hf
        exact absurd hf (by simp)
      · replace hf := (if_neg c9).symm.trans hf
        refine lv_irem hx hb dX3_mark_25 c9 ?_
        refine lv_istore (lv' := [(4, .int ((x1 - (1 : Int32)) - (x1 - (1 : Int32)) / (σ.1 6) * (σ.1 6))), (3, .int ((x1 - (1 : Int32)) / (σ.1 6))), (0, .ref (ka K 5)), (1, .int x1), (2, .int x2)]) hx hb dX3_mark_26 hl (by decide) rfl (fun ls hl => ?_)
        refine lv_aload_n hx hb dX3_mark_28 rfl (lv_at hl 2 rfl) ?_
        refine gw_get (v := .ref (ka K 3)) F inc_X3 hW 5 3 1 (aX_5 K σ) rfl (by decide) (hG _ q_1_84) (fun _ h9 => h9) rfl dX3_mark_29 ?_
        refine lv_iload_n hx hb dX3_mark_32 rfl (lv_at hl 1 rfl) ?_
        refine lv_aload_n hx hb dX3_mark_33 rfl (lv_at hl 2 rfl) ?_
        refine gw_get (v := .int (3 : Int32)) F inc_X3 hW 5 3 2 (aX_5 K σ) rfl (by decide) (hG _ q_1_85) (fun _ h9 => h9) rfl dX3_mark_34 ?_
        obtain ⟨o10, h11, hf⟩ := gw_bind hf
        refine gw_Vi (As := [.int ((x1 - (1 : Int32)) / (σ.1 6)), .int (3 : Int32)]) (mc' := 0) (ms' := 0) F hW (mXX2_partAt_3 h11) (cwV 2 hts (gT_V q_2_51 q_2_52 q_2_53 q_1_4 q_2_54) rfl rfl rfl hdX2_partAt ⟨Nat.le_of_ble_eq_true rfl, Nat.le_of_ble_eq_true rfl⟩) 3 2 (aX_3 K σ) rfl rfl hl.1 rfl (Nat.le_of_ble_eq_true rfl) dX3_mark_37 ⟨Nat.le_of_ble_eq_true rfl, Nat.le_of_ble_eq_true rfl⟩ rfl rfl (fun H locs hW => ?_)
        refine lv_iload hx hb dX3_mark_40 (lv_at hl 0 rfl) ?_
        refine lv_bipush (v := (8 : Int32)) hx hb dX3_mark_42 (by decide) ?_
        refine lv_idiv hx hb dX3_mark_44 (by decide) ?_
        refine lv_iadd hx hb dX3_mark_45 ?_
        refine lv_istore (lv' := [(5, .int (o10.1 + (((x1 - (1 : Int32)) - (x1 - (1 : Int32)) / (σ.1 6) * (σ.1 6)) / (8 : Int32)))), (4, .int ((x1 - (1 : Int32)) - (x1 - (1 : Int32)) / (σ.1 6) * (σ.1 6))), (3, .int ((x1 - (1 : Int32)) / (σ.1 6))), (0, .ref (ka K 5)), (1, .int x1), (2, .int x2)]) hx hb dX3_mark_46 hl (by decide) rfl (fun ls hl => ?_)
        refine lv_iconst (v := (1 : Int32)) hx hb dX3_mark_48 (by decide) ?_
        refine lv_iload hx hb dX3_mark_49 (lv_at hl 1 rfl) ?_
        refine lv_bipush (v := (8 : Int32)) hx hb dX3_mark_51 (by decide) ?_
        refine lv_irem hx hb dX3_mark_53 (by decide) ?_
        refine lv_ishl hx hb dX3_mark_54 ?_
        refine lv_istore (lv' := [(6, .int ((1 : Int32) <<< ((((x1 - (1 : Int32)) - (x1 - (1 : Int32)) / (σ.1 6) * (σ.1 6)) - ((x1 - (1 : Int32)) - (x1 - (1 : Int32)) / (σ.1 6) * (σ.1 6)) / (8 : Int32) * (8 : Int32)) &&& 31))), (5, .int (o10.1 + (((x1 - (1 : Int32)) - (x1 - (1 : Int32)) / (σ.1 6) * (σ.1 6)) / (8 : Int32)))), (4, .int ((x1 - (1 : Int32)) - (x1 - (1 : Int32)) / (σ.1 6) * (σ.1 6))), (3, .int ((x1 - (1 : Int32)) / (σ.1 6))), (0, .ref (ka K 5)), (1, .int x1), (2, .int x2)]) hx hb dX3_mark_55 hl (by decide) rfl (fun ls hl => ?_)
        exact wXX3_mark_5_57 F x2 ((x1 - (1 : Int32)) / (σ.1 6)) (o10.1 + (((x1 - (1 : Int32)) - (x1 - (1 : Int32)) / (σ.1 6) * (σ.1 6)) / (8 : Int32))) ((1 : Int32) <<< ((((x1 - (1 : Int32)) - (x1 - (1 : Int32)) / (σ.1 6) * (σ.1 6)) - ((x1 - (1 : Int32)) - (x1 - (1 : Int32)) / (σ.1 6) * (σ.1 6)) / (8 : Int32) * (8 : Int32)) &&& 31)) _ _ hf _ _ _ (lv_sub hl [4, 6, 3, 1, 0] rfl) hW
  · replace hf := (if_neg c7).symm.trans hf
    exact gw_retv F hW hf dX3_mark_8
set_option maxHeartbeats 4000000 in
set_option maxRecDepth 100000 in
theorem mXX3_mark_5 {l : Launch} {K : KX} {σ : XS} {x1 : Int32} {x2 : Int32} {o : XS} (hf : fXX3_mark_5 (kn K) x1 x2 σ = some o) : gw_Mv l (kD K) vwCl (tyX K) (wX K) yX3_mark wsX3_mark rXX3_mark_5 [.ref (ka K 5), .int x1, .int x2] σ o := by
  intro sz
  refine gw_body (cc := cX3_mark) (maxL := 11) (yret := none) (by decide +kernel) rfl ?_ (Nat.le_of_ble_eq_true rfl)
  intro p e s m below meth c F hsz hW ls hl
  exact wXX3_mark_5_0 F x1 x2 σ o hf s.heap [] ls hl hW
abbrev rXX3_take_5 : Room := { frames := 2, cells := 0, slots := 0, locals := 52 }
def PXX3_take_5_28 (p : Program) (l : Launch) (e : Env) (s : State) (m : MethodId) (args : Array Value) (below : List Frame) (meth : Method) (c : Code) (A : Nat → Prop) (K : KX) (t : (Int32 × Int32 × Int32 × XS)) (o : (Int32 × XS)) : Prop := ∀ (H : Heap) (locs : List Loc) (ls : Array Slot), lv_has ls 5 [(0, .ref (ka K 5)), (1, .int t.1), (2, .int t.2.1), (3, .int t.2.2.1)] → gw_ (kD K) vwCl (tyX K) (wX K) A s t.2.2.2 H locs → W p l e rXX3_take_5 s m args below meth c H locs 0 0 (MQ below (gw_Qi (kD K) vwCl (tyX K) (wX K) A o) args s rXX3_take_5.cells rXX3_take_5.slots A) (F0 m 28 ls [])
def PXX3_take_5_2 (p : Program) (l : Launch) (e : Env) (s : State) (m : MethodId) (args : Array Value) (below : List Frame) (meth : Method) (c : Code) (A : Nat → Prop) (K : KX) (t : (Int32 × XS)) (o : (Int32 × XS)) : Prop := ∀ (H : Heap) (locs : List Loc) (ls : Array Slot), lv_has ls 5 [(0, .ref (ka K 5)), (1, .int t.1)] → gw_ (kD K) vwCl (tyX K) (wX K) A s t.2 H locs → W p l e rXX3_take_5 s m args below meth c H locs 0 0 (MQ below (gw_Qi (kD K) vwCl (tyX K) (wX K) A o) args s rXX3_take_5.cells rXX3_take_5.slots A) (F0 m 2 ls [])
set_option maxHeartbeats 4000000 in
set_option maxRecDepth 100000 in
theorem wXX3_take_5_28 {p : Program} {l : Launch} {e : Env} {s : State} {m : MethodId} {args : Array Value} {below : List Frame} {meth : Method} {c : Code} {A : Nat → Prop} {K : KX} (F : fx_ p s m args meth c cX3_take 5 (some .int) RX3 wsX3_take) {k2 : (Int32 × XS) → Option (Int32 × XS)} (hk2 : ∀ t o, k2 t = some o → PXX3_take_5_2 p l e s m args below meth c A K t o) {k28 : (Int32 × Int32 × Int32 × XS) → Option (Int32 × XS)} (hk28 : ∀ t o, k28 t = some o → PXX3_take_5_28 p l e s m args below meth c A K t o) (x1 : Int32) (x2 : Int32) (x3 : Int32) (σ : XS) (o : (Int32 × XS)) (hf : fXX3_take_5_28 (kn K) k2 k28 x1 x2 x3 σ = some o) (H : Heap) (locs : List Loc) (ls : Array Slot) (hl : lv_has ls 5 [(0, .ref (ka K 5)), (1, .int x1), (2, .int x2), (3, .int x3)]) (hW : gw_ (kD K) vwCl (tyX K) (wX K) A s σ H locs) : W p l e rXX3_take_5 s m args below meth c H locs 0 0 (MQ below (gw_Qi (kD K) vwCl (tyX K) (wX K) A o) args s rXX3_take_5.cells rXX3_take_5.slots A) (F0 m 28 ls []) := by
  have hx := F.1
  have hb := F.2.1
  have hml := F.2.2.2.1
  have hown := F.2.2.2.2.1
  have hts := F.2.2.2.2.2.1
  have hG : ∀ x ∈ gT, x.before args s = true := fun x h => hts x (List.mem_cons_of_mem _ h)
  unfold fXX3_take_5_28 at hf
  refine lv_iload_n hx hb dX3_take_28 rfl (lv_at hl 3 rfl) ?_
  refine lv_aload_n hx hb dX3_take_29 rfl (lv_at hl 0 rfl) ?_
  refine gw_get (v := .int (σ.1 6)) F inc_X3 hW 5 3 5 (aX_5 K σ) rfl (by decide) (hG _ q_1_88) (fun _ h9 => h9) rfl dX3_take_30 ?_
  refine lv_bipush (v := (8 : Int32)) hx hb dX3_take_33 (by decide) ?_
  refine lv_idiv hx hb dX3_take_35 (by decide) ?_
  refine lv_icmp_ge (tgt := 100) hx hb dX3_take_36 (by decide) (fun c8 => ?_) (fun c8 => ?_)
  · replace hf := (if_pos c8).symm.trans hf
    refine lv_iinc (v := (x1 + (1 : Int32))) (lv' := [(1, .int (x1 + (1 : Int32))), (0, .ref (ka K 5)), (2, .int x2), (3, .int x3)]) hx hb dX3_take_100 hl (k := 1) rfl rfl (by decide) rfl (fun ls hl => ?_)
    refine lv_goto (tgt := 2) hx hb dX3_take_103 (by decide) ?_
    exact hk2 _ _ hf _ _ _ (lv_sub hl [1, 0] rfl) hW
  · replace hf := (if_neg c8).symm.trans hf
    refine lv_aload_n hx hb dX3_take_39 rfl (lv_at hl 0 rfl) ?_
    refine gw_get (v := .ref (ka K 1)) F inc_X3 hW 5 3 0 (aX_5 K σ) rfl (by decide) (hG _ q_1_83) (fun _ h9 => h9) rfl dX3_take_40 ?_
    refine lv_iload_n hx hb dX3_take_43 rfl (lv_at hl 2 rfl) ?_
    refine lv_iload_n hx hb dX3_take_44 rfl (lv_at hl 3 rfl) ?_
    refine lv_iadd hx hb dX3_take_45 ?_
    obtain ⟨o9, h10, hf⟩ := gw_bind hf
    refine gw_Vi (As := [.int (x2 + x3)]) (mc' := 0) (ms' := 0) F hW (mXX1_get_1 h10) (cwV 1 hts (gT_V q_2_55 q_2_56 q_2_57 q_1_3 q_2_58) rfl rfl rfl hdX1_get ⟨Nat.le_of_ble_eq_true rfl, Nat.le_of_ble_eq_true rfl⟩) 1 1 (aX_1 K σ) rfl rfl hl.1 rfl (Nat.le_of_ble_eq_true rfl) dX3_take_46 ⟨Nat.le_of_ble_eq_true rfl, Nat.le_of_ble_eq_true rfl⟩ rfl rfl (fun H locs hW => ?_)
    refine lv_sipush (v := (255 : Int32)) hx hb dX3_take_49 (by decide) ?_
    refine lv_icmp_eq (tgt := 94) hx hb dX3_take_52 (by decide) (fun c12 => ?_) (fun c12 => ?_)
    · replace hf := (if_pos c12).symm.trans hf
      refine lv_iinc (v := (x3 + (1 : Int32))) (lv' := [(3, .int (x3 + (1 : Int32))), (0, .ref (ka K 5)), (1, .int x1), (2, .int x2)]) hx hb dX3_take_94 hl (k := 3) rfl rfl (by decide) rfl (fun ls hl => ?_)
      refine lv_goto (tgt := 28) hx hb dX3_take_97 (by decide) ?_
      exact hk28 _ _ hf _ _ _ (lv_sub hl [1, 2, 3, 0] rfl) hW
    · replace hf := (if_neg c12).symm.trans hf
      refine lv_iconst (v := (1 : Int32)) hx hb dX3_take_55 (by decide) ?_
      refine lv_iload_n hx hb dX3_take_56 rfl (lv_at hl 1 rfl) ?_
      refine lv_aload_n hx hb dX3_take_57 rfl (lv_at hl 0 rfl) ?_
      refine gw_get (v := .int (o9.2.1 6)) F inc_X3 hW 5 3 5 (aX_5 K o9.2) rfl (by decide) (hG _ q_1_88) (fun _ h9 => h9) rfl dX3_take_58 ?_
      refine lv_imul hx hb dX3_take_61 ?_
      refine lv_iadd hx hb dX3_take_62 ?_
      refine lv_bipush (v := (8 : Int32)) hx hb dX3_take_63 (by decide) ?_
      refine lv_iload_n hx hb dX3_take_65 rfl (lv_at hl 3 rfl) ?_
      refine lv_imul hx hb dX3_take_66 ?_
      refine lv_iadd hx hb dX3_take_67 ?_
      refine lv_aload_n hx hb dX3_take_68 rfl (lv_at hl 0 rfl) ?_
      refine gw_get (v := .ref (ka K 1)) F inc_X3 hW 5 3 0 (aX_5 K o9.2) rfl (by decide) (hG _ q_1_83) (fun _ h9 => h9) rfl dX3_take_69 ?_
      refine lv_iload_n hx hb dX3_take_72 rfl (lv_at hl 2 rfl) ?_
      refine lv_iload_n hx hb dX3_take_73 rfl (lv_at hl 3 rfl) ?_
      refine lv_iadd hx hb dX3_take_74 ?_
      obtain ⟨o13, h14, hf⟩ := gw_bind hf
      refine gw_Vi (As := [.int (x2 + x3)]) (mc' := 0) (ms' := 0) F hW (mXX1_get_1 h14) (cwV 1 hts (gT_V q_2_55 q_2_56 q_2_57 q_1_3 q_2_58) rfl rfl rfl hdX1_get ⟨Nat.le_of_ble_eq_true rfl, Nat.le_of_ble_eq_true rfl⟩) 1 1 (aX_1 K o9.2) rfl rfl hl.1 rfl (Nat.le_of_ble_eq_true rfl) dX3_take_75 ⟨Nat.le_of_ble_eq_true rfl, Nat.le_of_ble_eq_true rfl⟩ rfl rfl (fun H locs hW => ?_)
      obtain ⟨o16, h17, hf⟩ := gw_bind hf
      refine gw_Si (As := [.int o13.1]) (mc' := 0) (ms' := 0) F hW (mXX3_lowestClear h17) (va_cwS 1 hts (gT_S q_4_237 q_4_238 q_1_5 q_4_239) rfl rfl rfl hdX3_lowestClear.2 ⟨Nat.le_of_ble_eq_true rfl, Nat.le_of_ble_eq_true rfl⟩) rfl hl.1 rfl (Nat.le_of_ble_eq_true rfl) dX3_take_78 ⟨Nat.le_of_ble_eq_true rfl, Nat.le_of_ble_eq_true rfl⟩ rfl rfl (fun H locs hW => ?_)
      refine lv_iadd hx hb dX3_take_81 ?_
      refine lv_istore (lv' := [(4, .int ((((1 : Int32) + (x1 * (o9.2.1 6))) + ((8 : Int32) * x3)) + o16.1)), (0, .ref (ka K 5)), (1, .int x1), (2, .int x2), (3, .int x3)]) hx hb dX3_take_82 hl (by decide) rfl (fun ls hl => ?_)
      refine lv_aload_n hx hb dX3_take_84 rfl (lv_at hl 1 rfl) ?_
      refine lv_iload hx hb dX3_take_85 (lv_at hl 0 rfl) ?_
      refine lv_iconst (v := (1 : Int32)) hx hb dX3_take_87 (by decide) ?_
      obtain ⟨o19, h20, hf⟩ := gw_bind hf
      refine gw_Vv (As := [.int ((((1 : Int32) + (x1 * (o9.2.1 6))) + ((8 : Int32) * x3)) + o16.1), .int (1 : Int32)]) (mc' := 0) (ms' := 0) F hW (mXX3_mark_5 h20) (cwV 2 hts (gT_V q_5_0 q_5_2 qp_23 q_1_5 q_5_3) rfl rfl rfl hdX3_mark ⟨Nat.le_of_ble_eq_true rfl, Nat.le_of_ble_eq_true rfl⟩) 5 3 (aX_5 K o16.2) rfl rfl hl.1 rfl (Nat.le_of_ble_eq_true rfl) dX3_take_88 ⟨Nat.le_of_ble_eq_true rfl, Nat.le_of_ble_eq_true rfl⟩ rfl rfl (fun H locs hW => ?_)
      refine lv_iload hx hb dX3_take_91 (lv_at hl 0 rfl) ?_
      exact gw_reti F hW hf dX3_take_93
set_option maxHeartbeats 4000000 in
set_option maxRecDepth 100000 in
theorem wXX3_take_5_2 {p : Program} {l : Launch} {e : Env} {s : State} {m : MethodId} {args : Array Value} {below : List Frame} {meth : Method} {c : Code} {A : Nat → Prop} {K : KX} (F : fx_ p s m args meth c cX3_take 5 (some .int) RX3 wsX3_take) {k2 : (Int32 × XS) → Option (Int32 × XS)} (hk2 : ∀ t o, k2 t = some o → PXX3_take_5_2 p l e s m args below meth c A K t o) (x1 : Int32) (σ : XS) (o : (Int32 × XS)) (hf : fXX3_take_5_2 (kn K) k2 x1 σ = some o) (H : Heap) (locs : List Loc) (ls : Array Slot) (hl : lv_has ls 5 [(0, .ref (ka K 5)), (1, .int x1)]) (hW : gw_ (kD K) vwCl (tyX K) (wX K) A s σ H locs) : W p l e rXX3_take_5 s m args below meth c H locs 0 0 (MQ below (gw_Qi (kD K) vwCl (tyX K) (wX K) A o) args s rXX3_take_5.cells rXX3_take_5.slots A) (F0 m 2 ls []) := by
  have hx := F.1
  have hb := F.2.1
  have hml := F.2.2.2.1
  have hown := F.2.2.2.2.1
  have hts := F.2.2.2.2.2.1
  have hG : ∀ x ∈ gT, x.before args s = true := fun x h => hts x (List.mem_cons_of_mem _ h)
  unfold fXX3_take_5_2 at hf
  refine lv_iload_n hx hb dX3_take_2 rfl (lv_at hl 1 rfl) ?_
  refine lv_aload_n hx hb dX3_take_3 rfl (lv_at hl 0 rfl) ?_
  refine gw_get (v := .ref (ka K 3)) F inc_X3 hW 5 3 1 (aX_5 K σ) rfl (by decide) (hG _ q_1_84) (fun _ h9 => h9) rfl dX3_take_4 ?_
  obtain ⟨o1, h2, hf⟩ := gw_bind hf
  refine gw_Vi (As := []) (mc' := 0) (ms' := 0) F hW (mXX2_groups_3 h2) (cwV 0 hts (gT_V q_4_216 q_2_74 q_2_75 q_1_4 q_2_76) rfl rfl rfl hdX2_groups ⟨Nat.le_of_ble_eq_true rfl, Nat.le_of_ble_eq_true rfl⟩) 3 2 (aX_3 K σ) rfl rfl hl.1 rfl (Nat.le_of_ble_eq_true rfl) dX3_take_7 ⟨Nat.le_of_ble_eq_true rfl, Nat.le_of_ble_eq_true rfl⟩ rfl rfl (fun H locs hW => ?_)
  refine lv_icmp_ge (tgt := 106) hx hb dX3_take_10 (by decide) (fun c4 => ?_) (fun c4 => ?_)
  · replace hf := (if_pos c4).symm.trans hf
    refine lv_iconst (v := (-1 : Int32)) hx hb dX3_take_106 (by decide) ?_
    exact gw_reti F hW hf dX3_take_107
  · replace hf := (if_neg c4).symm.trans hf
    refine lv_aload_n hx hb dX3_take_13 rfl (lv_at hl 0 rfl) ?_
    refine gw_get (v := .ref (ka K 3)) F inc_X3 hW 5 3 1 (aX_5 K o1.2) rfl (by decide) (hG _ q_1_84) (fun _ h9 => h9) rfl dX3_take_14 ?_
    refine lv_iload_n hx hb dX3_take_17 rfl (lv_at hl 1 rfl) ?_
    refine lv_aload_n hx hb dX3_take_18 rfl (lv_at hl 0 rfl) ?_
    refine gw_get (v := .int (3 : Int32)) F inc_X3 hW 5 3 2 (aX_5 K o1.2) rfl (by decide) (hG _ q_1_85) (fun _ h9 => h9) rfl dX3_take_19 ?_
    obtain ⟨o5, h6, hf⟩ := gw_bind hf
    refine gw_Vi (As := [.int x1, .int (3 : Int32)]) (mc' := 0) (ms' := 0) F hW (mXX2_partAt_3 h6) (cwV 2 hts (gT_V q_2_51 q_2_52 q_2_53 q_1_4 q_2_54) rfl rfl rfl hdX2_partAt ⟨Nat.le_of_ble_eq_true rfl, Nat.le_of_ble_eq_true rfl⟩) 3 2 (aX_3 K o1.2) rfl rfl hl.1 rfl (Nat.le_of_ble_eq_true rfl) dX3_take_22 ⟨Nat.le_of_ble_eq_true rfl, Nat.le_of_ble_eq_true rfl⟩ rfl rfl (fun H locs hW => ?_)
    refine lv_istore_n (lv' := [(2, .int o5.1), (0, .ref (ka K 5)), (1, .int x1)]) hx hb dX3_take_25 rfl hl (by decide) rfl (fun ls hl => ?_)
    refine lv_iconst (v := (0 : Int32)) hx hb dX3_take_26 (by decide) ?_
    refine lv_istore_n (lv' := [(3, .int (0 : Int32)), (2, .int o5.1), (0, .ref (ka K 5)), (1, .int x1)]) hx hb dX3_take_27 rfl hl (by decide) rfl (fun ls hl => ?_)
    exact lfix_ind (P := PXX3_take_5_28 p l e s m args below meth c A K) (fun k28 hk28 t o hf => wXX3_take_5_28 F hk2 hk28 t.1 t.2.1 t.2.2.1 t.2.2.2 o hf) FU _ _ hf _ _ _ (lv_sub hl [2, 3, 1, 0] rfl) hW
set_option maxHeartbeats 4000000 in
set_option maxRecDepth 100000 in
theorem wXX3_take_5_0 {p : Program} {l : Launch} {e : Env} {s : State} {m : MethodId} {args : Array Value} {below : List Frame} {meth : Method} {c : Code} {A : Nat → Prop} {K : KX} (F : fx_ p s m args meth c cX3_take 5 (some .int) RX3 wsX3_take) (σ : XS) (o : (Int32 × XS)) (hf : fXX3_take_5_0 (kn K) σ = some o) (H : Heap) (locs : List Loc) (ls : Array Slot) (hl : lv_has ls 5 [(0, .ref (ka K 5))]) (hW : gw_ (kD K) vwCl (tyX K) (wX K) A s σ H locs) : W p l e rXX3_take_5 s m args below meth c H locs 0 0 (MQ below (gw_Qi (kD K) vwCl (tyX K) (wX K) A o) args s rXX3_take_5.cells rXX3_take_5.slots A) (F0 m 0 ls []) := by
  have hx := F.1
  have hb := F.2.1
  have hml := F.2.2.2.1
  have hown := F.2.2.2.2.1
  have hts := F.2.2.2.2.2.1
  have hG : ∀ x ∈ gT, x.before args s = true := fun x h => hts x (List.mem_cons_of_mem _ h)
  unfold fXX3_take_5_0 at hf
  refine lv_iconst (v := (0 : Int32)) hx hb dX3_take_0 (by decide) ?_
  refine lv_istore_n (lv' := [(1, .int (0 : Int32)), (0, .ref (ka K 5))]) hx hb dX3_take_1 rfl hl (by decide) rfl (fun ls hl => ?_)
  exact lfix_ind (P := PXX3_take_5_2 p l e s m args below meth c A K) (fun k2 hk2 t o hf => wXX3_take_5_2 F hk2 t.1 t.2 o hf) FU _ _ hf _ _ _ (lv_sub hl [1, 0] rfl) hW
set_option maxHeartbeats 4000000 in
set_option maxRecDepth 100000 in
theorem mXX3_take_5 {l : Launch} {K : KX} {σ : XS} {o : (Int32 × XS)} (hf : fXX3_take_5 (kn K) σ = some o) : gw_Mi l (kD K) vwCl (tyX K) (wX K) yX3_take wsX3_take rXX3_take_5 [.ref (ka K 5)] σ o := by
  intro sz
  refine gw_body (cc := cX3_take) (maxL := 5) (yret := some .int) (by decide +kernel) rfl ?_ (Nat.le_of_ble_eq_true rfl)
  intro p e s m below meth c F hsz hW ls hl
  exact wXX3_take_5_0 F σ o hf s.heap [] ls hl hW
abbrev rXX3_isUsed_4 : Room := { frames := 1, cells := 0, slots := 0, locals := 22 }
set_option maxHeartbeats 4000000 in
set_option maxRecDepth 100000 in
theorem wXX3_isUsed_4_0 {p : Program} {l : Launch} {e : Env} {s : State} {m : MethodId} {args : Array Value} {below : List Frame} {meth : Method} {c : Code} {A : Nat → Prop} {K : KX} (F : fx_ p s m args meth c cX3_isUsed 3 (some .boolean) RX3 wsX3_isUsed) (x1 : Int32) (σ : XS) (o : (Int32 × XS)) (hf : fXX3_isUsed_4_0 (kn K) x1 σ = some o) (H : Heap) (locs : List Loc) (ls : Array Slot) (hl : lv_has ls 3 [(0, .ref (ka K 4)), (1, .int x1)]) (hW : gw_ (kD K) vwCl (tyX K) (wX K) A s σ H locs) : W p l e rXX3_isUsed_4 s m args below meth c H locs 0 0 (MQ below (va_Qi (fun r u => (r = o.1 ∧ u = o.2) ∧ (o.1 = 0 ∨ o.1 = 1)) (gw_B (kD K) vwCl (tyX K) (wX K) A) A) args s rXX3_isUsed_4.cells rXX3_isUsed_4.slots A) (F0 m 0 ls []) := by
  have hx := F.1
  have hb := F.2.1
  have hml := F.2.2.2.1
  have hown := F.2.2.2.2.1
  have hts := F.2.2.2.2.2.1
  have hG : ∀ x ∈ gT, x.before args s = true := fun x h => hts x (List.mem_cons_of_mem _ h)
  unfold fXX3_isUsed_4_0 at hf
  refine lv_aload_n hx hb dX3_isUsed_0 rfl (lv_at hl 0 rfl) ?_
  refine gw_get (v := .int (σ.1 5)) F inc_X3 hW 4 3 5 (aX_4 K σ) rfl (by decide) (hG _ q_1_88) (fun _ h9 => h9) rfl dX3_isUsed_1 ?_
  refine lv_iconst (v := (1 : Int32)) hx hb dX3_isUsed_4 (by decide) ?_
  refine lv_icmp_lt (tgt := 13) hx hb dX3_isUsed_5 (by decide) (fun c1 => ?_) (fun c1 => ?_)
  · replace hf := (if_pos c1).symm.trans hf
    refine lv_iconst (v := (1 : Int32)) hx hb dX3_isUsed_13 (by decide) ?_
    exact gw_retz F hW hf (Or.inr rfl) dX3_isUsed_14
  · replace hf := (if_neg c1).symm.trans hf
    refine lv_iload_n hx hb dX3_isUsed_8 rfl (lv_at hl 1 rfl) ?_
    refine lv_iconst (v := (1 : Int32)) hx hb dX3_isUsed_9 (by decide) ?_
    refine lv_icmp_ge (tgt := 15) hx hb dX3_isUsed_10 (by decide) (fun c2 => ?_) (fun c2 => ?_)
    · replace hf := (if_pos c2).symm.trans hf
      refine lv_iload_n hx hb dX3_isUsed_15 rfl (lv_at hl 1 rfl) ?_
      refine lv_iconst (v := (1 : Int32)) hx hb dX3_isUsed_16 (by decide) ?_
      refine lv_isub hx hb dX3_isUsed_17 ?_
      refine lv_aload_n hx hb dX3_isUsed_18 rfl (lv_at hl 0 rfl) ?_
      refine gw_get (v := .int (σ.1 5)) F inc_X3 hW 4 3 5 (aX_4 K σ) rfl (by decide) (hG _ q_1_88) (fun _ h9 => h9) rfl dX3_isUsed_19 ?_
      rcases Decidable.em ((σ.1 5) = 0) with c3 | c3
      · replace hf := (if_pos c3).symm.trans hf
        exact absurd hf (by simp)
      · replace hf := (if_neg c3).symm.trans hf
        refine lv_irem hx hb dX3_isUsed_22 c3 ?_
        refine lv_istore_n (lv' := [(2, .int ((x1 - (1 : Int32)) - (x1 - (1 : Int32)) / (σ.1 5) * (σ.1 5))), (0, .ref (ka K 4)), (1, .int x1)]) hx hb dX3_isUsed_23 rfl hl (by decide) rfl (fun ls hl => ?_)
        refine lv_aload_n hx hb dX3_isUsed_24 rfl (lv_at hl 1 rfl) ?_
        refine gw_get (v := .ref (ka K 1)) F inc_X3 hW 4 3 0 (aX_4 K σ) rfl (by decide) (hG _ q_1_83) (fun _ h9 => h9) rfl dX3_isUsed_25 ?_
        refine lv_aload_n hx hb dX3_isUsed_28 rfl (lv_at hl 1 rfl) ?_
        refine gw_get (v := .ref (ka K 3)) F inc_X3 hW 4 3 1 (aX_4 K σ) rfl (by decide) (hG _ q_1_84) (fun _ h9 => h9) rfl dX3_isUsed_29 ?_
        refine lv_iload_n hx hb dX3_isUsed_32 rfl (lv_at hl 2 rfl) ?_
        refine lv_iconst (v := (1 : Int32)) hx hb dX3_isUsed_33 (by decide) ?_
        refine lv_isub hx hb dX3_isUsed_34 ?_
        refine lv_aload_n hx hb dX3_isUsed_35 rfl (lv_at hl 1 rfl) ?_
        refine gw_get (v := .int (σ.1 5)) F inc_X3 hW 4 3 5 (aX_4 K σ) rfl (by decide) (hG _ q_1_88) (fun _ h9 => h9) rfl dX3_isUsed_36 ?_
        rcases Decidable.em ((σ.1 5) = 0) with c4 | c4
        · replace hf := (if_pos c4).symm.trans hf
          exact absurd hf (by simp)
        · replace hf := (if_neg c4).symm.trans hf
          refine lv_idiv hx hb dX3_isUsed_39 c4 ?_
          refine lv_aload_n hx hb dX3_isUsed_40 rfl (lv_at hl 1 rfl) ?_
          refine gw_get (v := .int (2 : Int32)) F inc_X3 hW 4 3 2 (aX_4 K σ) rfl (by decide) (hG _ q_1_85) (fun _ h9 => h9) rfl dX3_isUsed_41 ?_
          obtain ⟨o5, h6, hf⟩ := gw_bind hf
          refine gw_Vi (As := [.int ((x1 - (1 : Int32)) / (σ.1 5)), .int (2 : Int32)]) (mc' := 0) (ms' := 0) F hW (mXX2_partAt_3 h6) (cwV 2 hts (gT_V q_2_51 q_2_52 q_2_53 q_1_4 q_2_54) rfl rfl rfl hdX2_partAt ⟨Nat.le_of_ble_eq_true rfl, Nat.le_of_ble_eq_true rfl⟩) 3 2 (aX_3 K σ) rfl rfl hl.1 rfl (Nat.le_of_ble_eq_true rfl) dX3_isUsed_44 ⟨Nat.le_of_ble_eq_true rfl, Nat.le_of_ble_eq_true rfl⟩ rfl rfl (fun H locs hW => ?_)
          refine lv_iload_n hx hb dX3_isUsed_47 rfl (lv_at hl 0 rfl) ?_
          refine lv_bipush (v := (8 : Int32)) hx hb dX3_isUsed_48 (by decide) ?_
          refine lv_idiv hx hb dX3_isUsed_50 (by decide) ?_
          refine lv_iadd hx hb dX3_isUsed_51 ?_
          obtain ⟨o8, h9, hf⟩ := gw_bind hf
          refine gw_Vi (As := [.int (o5.1 + (((x1 - (1 : Int32)) - (x1 - (1 : Int32)) / (σ.1 5) * (σ.1 5)) / (8 : Int32)))]) (mc' := 0) (ms' := 0) F hW (mXX1_get_1 h9) (cwV 1 hts (gT_V q_2_55 q_2_56 q_2_57 q_1_3 q_2_58) rfl rfl rfl hdX1_get ⟨Nat.le_of_ble_eq_true rfl, Nat.le_of_ble_eq_true rfl⟩) 1 1 (aX_1 K o5.2) rfl rfl hl.1 rfl (Nat.le_of_ble_eq_true rfl) dX3_isUsed_52 ⟨Nat.le_of_ble_eq_true rfl, Nat.le_of_ble_eq_true rfl⟩ rfl rfl (fun H locs hW => ?_)
          refine lv_iload_n hx hb dX3_isUsed_55 rfl (lv_at hl 0 rfl) ?_
          refine lv_bipush (v := (8 : Int32)) hx hb dX3_isUsed_56 (by decide) ?_
          refine lv_irem hx hb dX3_isUsed_58 (by decide) ?_
          refine lv_ishr hx hb dX3_isUsed_59 ?_
          refine lv_iconst (v := (1 : Int32)) hx hb dX3_isUsed_60 (by decide) ?_
          refine lv_iand hx hb dX3_isUsed_61 ?_
          refine lv_iconst (v := (1 : Int32)) hx hb dX3_isUsed_62 (by decide) ?_
          refine lv_icmp_ne (tgt := 70) hx hb dX3_isUsed_63 (by decide) (fun c11 => ?_) (fun c11 => ?_)
          · replace hf := (if_neg c11).symm.trans hf
            refine lv_iconst (v := (0 : Int32)) hx hb dX3_isUsed_70 (by decide) ?_
            exact gw_retz F hW hf (Or.inl rfl) dX3_isUsed_71
          · replace hf := (if_pos c11).symm.trans hf
            refine lv_iconst (v := (1 : Int32)) hx hb dX3_isUsed_66 (by decide) ?_
            refine lv_goto (tgt := 71) hx hb dX3_isUsed_67 (by decide) ?_
            exact gw_retz F hW hf (Or.inr rfl) dX3_isUsed_71
    · replace hf := (if_neg c2).symm.trans hf
      refine lv_iconst (v := (1 : Int32)) hx hb dX3_isUsed_13 (by decide) ?_
      exact gw_retz F hW hf (Or.inr rfl) dX3_isUsed_14
set_option maxHeartbeats 4000000 in
set_option maxRecDepth 100000 in
theorem mXX3_isUsed_4 {l : Launch} {K : KX} {σ : XS} {x1 : Int32} {o : (Int32 × XS)} (hf : fXX3_isUsed_4 (kn K) x1 σ = some o) : gw_Mz l (kD K) vwCl (tyX K) (wX K) yX3_isUsed wsX3_isUsed rXX3_isUsed_4 [.ref (ka K 4), .int x1] σ o := by
  intro sz
  refine gw_body (cc := cX3_isUsed) (maxL := 3) (yret := some .boolean) (by decide +kernel) rfl ?_ (Nat.le_of_ble_eq_true rfl)
  intro p e s m below meth c F hsz hW ls hl
  exact wXX3_isUsed_4_0 F x1 σ o hf s.heap [] ls hl hW
abbrev rXX0_byteAt_0 : Room := { frames := 2, cells := 0, slots := 0, locals := 44 }
set_option maxHeartbeats 4000000 in
set_option maxRecDepth 100000 in
theorem wXX0_byteAt_0_50 {p : Program} {l : Launch} {e : Env} {s : State} {m : MethodId} {args : Array Value} {below : List Frame} {meth : Method} {c : Code} {A : Nat → Prop} {K : KX} (F : fx_ p s m args meth c cX0_byteAt 4 (some .int) RX0 wsX0_byteAt) (x1 : Int32) (y0 : Int32) (σ : XS) (o : (Int32 × XS)) (hf : fXX0_byteAt_0_50 (kn K) x1 y0 σ = some o) (H : Heap) (locs : List Loc) (ls : Array Slot) (hl : lv_has ls 4 [(0, .ref (ka K 0)), (1, .int x1)]) (hW : gw_ (kD K) vwCl (tyX K) (wX K) A s σ H locs) : W p l e rXX0_byteAt_0 s m args below meth c H locs 0 0 (MQ below (gw_Qi (kD K) vwCl (tyX K) (wX K) A o) args s rXX0_byteAt_0.cells rXX0_byteAt_0.slots A) (F0 m 50 ls [.int y0]) := by
  have hx := F.1
  have hb := F.2.1
  have hml := F.2.2.2.1
  have hown := F.2.2.2.2.1
  have hts := F.2.2.2.2.2.1
  have hG : ∀ x ∈ gT, x.before args s = true := fun x h => hts x (List.mem_cons_of_mem _ h)
  unfold fXX0_byteAt_0_50 at hf
  refine lv_istore_n (lv' := [(3, .int y0), (0, .ref (ka K 0)), (1, .int x1)]) hx hb dX0_byteAt_50 rfl hl (by decide) rfl (fun ls hl => ?_)
  refine lv_iload_n hx hb dX0_byteAt_51 rfl (lv_at hl 0 rfl) ?_
  refine lv_if_eq (tgt := 59) hx hb dX0_byteAt_52 (by decide) (fun c7 => ?_) (fun c7 => ?_)
  · replace hf := (if_pos c7).symm.trans hf
    refine lv_aload_n hx hb dX0_byteAt_59 rfl (lv_at hl 1 rfl) ?_
    refine gw_get (v := .ref (ka K 1)) F inc_X0 hW 0 0 0 (aX_0 K σ) rfl (by decide) (hG _ q_1_223) (fun _ h9 => h9) rfl dX0_byteAt_60 ?_
    refine lv_iload_n hx hb dX0_byteAt_63 rfl (lv_at hl 2 rfl) ?_
    obtain ⟨o8, h9, hf⟩ := gw_bind hf
    refine gw_Vi (As := [.int x1]) (mc' := 0) (ms' := 0) F hW (mXX1_get_1 h9) (cwV 1 hts (gT_V q_2_59 q_2_56 q_2_57 q_1_3 q_2_58) rfl rfl rfl hdX1_get ⟨Nat.le_of_ble_eq_true rfl, Nat.le_of_ble_eq_true rfl⟩) 1 1 (aX_1 K σ) rfl rfl hl.1 rfl (Nat.le_of_ble_eq_true rfl) dX0_byteAt_64 ⟨Nat.le_of_ble_eq_true rfl, Nat.le_of_ble_eq_true rfl⟩ rfl rfl (fun H locs hW => ?_)
    exact gw_reti F hW hf dX0_byteAt_67
  · replace hf := (if_neg c7).symm.trans hf
    refine lv_iconst (v := (-1 : Int32)) hx hb dX0_byteAt_55 (by decide) ?_
    refine lv_goto (tgt := 67) hx hb dX0_byteAt_56 (by decide) ?_
    exact gw_reti F hW hf dX0_byteAt_67
set_option maxHeartbeats 4000000 in
set_option maxRecDepth 100000 in
theorem wXX0_byteAt_0_49 {p : Program} {l : Launch} {e : Env} {s : State} {m : MethodId} {args : Array Value} {below : List Frame} {meth : Method} {c : Code} {A : Nat → Prop} {K : KX} (F : fx_ p s m args meth c cX0_byteAt 4 (some .int) RX0 wsX0_byteAt) (x1 : Int32) (σ : XS) (o : (Int32 × XS)) (hf : fXX0_byteAt_0_49 (kn K) x1 σ = some o) (H : Heap) (locs : List Loc) (ls : Array Slot) (hl : lv_has ls 4 [(0, .ref (ka K 0)), (1, .int x1)]) (hW : gw_ (kD K) vwCl (tyX K) (wX K) A s σ H locs) : W p l e rXX0_byteAt_0 s m args below meth c H locs 0 0 (MQ below (gw_Qi (kD K) vwCl (tyX K) (wX K) A o) args s rXX0_byteAt_0.cells rXX0_byteAt_0.slots A) (F0 m 49 ls []) := by
  have hx := F.1
  have hb := F.2.1
  have hml := F.2.2.2.1
  have hown := F.2.2.2.2.1
  have hts := F.2.2.2.2.2.1
  have hG : ∀ x ∈ gT, x.before args s = true := fun x h => hts x (List.mem_cons_of_mem _ h)
  unfold fXX0_byteAt_0_49 at hf
  refine lv_iconst (v := (0 : Int32)) hx hb dX0_byteAt_49 (by decide) ?_
  exact wXX0_byteAt_0_50 F x1 (0 : Int32) _ _ hf _ _ _ (lv_sub hl [0, 1] rfl) hW
set_option maxHeartbeats 4000000 in
set_option maxRecDepth 100000 in
theorem wXX0_byteAt_0_0 {p : Program} {l : Launch} {e : Env} {s : State} {m : MethodId} {args : Array Value} {below : List Frame} {meth : Method} {c : Code} {A : Nat → Prop} {K : KX} (F : fx_ p s m args meth c cX0_byteAt 4 (some .int) RX0 wsX0_byteAt) (x1 : Int32) (σ : XS) (o : (Int32 × XS)) (hf : fXX0_byteAt_0_0 (kn K) x1 σ = some o) (H : Heap) (locs : List Loc) (ls : Array Slot) (hl : lv_has ls 4 [(0, .ref (ka K 0)), (1, .int x1)]) (hW : gw_ (kD K) vwCl (tyX K) (wX K) A s σ H locs) : W p l e rXX0_byteAt_0 s m args below meth c H locs 0 0 (MQ below (gw_Qi (kD K) vwCl (tyX K) (wX K) A o) args s rXX0_byteAt_0.cells rXX0_byteAt_0.slots A) (F0 m 0 ls []) := by
  have hx := F.1
  have hb := F.2.1
  have hml := F.2.2.2.1
  have hown := F.2.2.2.2.1
  have hts := F.2.2.2.2.2.1
  have hG : ∀ x ∈ gT, x.before args s = true := fun x h => hts x (List.mem_cons_of_mem _ h)
  unfold fXX0_byteAt_0_0 at hf
  refine lv_iload_n hx hb dX0_byteAt_0 rfl (lv_at hl 1 rfl) ?_
  refine lv_if_lt (tgt := 15) hx hb dX0_byteAt_1 (by decide) (fun c1 => ?_) (fun c1 => ?_)
  · replace hf := (if_pos c1).symm.trans hf
    refine lv_iconst (v := (-1 : Int32)) hx hb dX0_byteAt_15 (by decide) ?_
    exact gw_reti F hW hf dX0_byteAt_16
  · replace hf := (if_neg c1).symm.trans hf
    refine lv_iload_n hx hb dX0_byteAt_4 rfl (lv_at hl 1 rfl) ?_
    refine lv_aload_n hx hb dX0_byteAt_5 rfl (lv_at hl 0 rfl) ?_
    refine gw_get (v := .ref (ka K 1)) F inc_X0 hW 0 0 0 (aX_0 K σ) rfl (by decide) (hG _ q_1_223) (fun _ h9 => h9) rfl dX0_byteAt_6 ?_
    obtain ⟨o2, h3, hf⟩ := gw_bind hf
    refine gw_Vi (As := []) (mc' := 0) (ms' := 0) F hW (mXX1_length_1 h3) (cwV 0 hts (gT_V q_2_43 q_2_44 q_2_45 q_1_3 q_2_46) rfl rfl rfl hdX1_length ⟨Nat.le_of_ble_eq_true rfl, Nat.le_of_ble_eq_true rfl⟩) 1 1 (aX_1 K σ) rfl rfl hl.1 rfl (Nat.le_of_ble_eq_true rfl) dX0_byteAt_9 ⟨Nat.le_of_ble_eq_true rfl, Nat.le_of_ble_eq_true rfl⟩ rfl rfl (fun H locs hW => ?_)
    refine lv_icmp_lt (tgt := 17) hx hb dX0_byteAt_12 (by decide) (fun c5 => ?_) (fun c5 => ?_)
    · replace hf := (if_pos c5).symm.trans hf
      refine lv_iload_n hx hb dX0_byteAt_17 rfl (lv_at hl 1 rfl) ?_
      refine lv_sipush (v := (1024 : Int32)) hx hb dX0_byteAt_18 (by decide) ?_
      refine lv_idiv hx hb dX0_byteAt_21 (by decide) ?_
      refine lv_istore_n (lv' := [(2, .int (x1 / (1024 : Int32))), (0, .ref (ka K 0)), (1, .int x1)]) hx hb dX0_byteAt_22 rfl hl (by decide) rfl (fun ls hl => ?_)
      refine lv_aload_n hx hb dX0_byteAt_23 rfl (lv_at hl 1 rfl) ?_
      refine gw_get (v := .int (o2.2.1 0)) F inc_X0 hW 0 0 9 (aX_0 K o2.2) rfl (by decide) (hG _ q_1_232) (fun _ h9 => h9) rfl dX0_byteAt_24 ?_
      refine lv_if_eq (tgt := 49) hx hb dX0_byteAt_27 (by decide) (fun c6 => ?_) (fun c6 => ?_)
      · replace hf := (if_pos c6).symm.trans hf
        exact wXX0_byteAt_0_49 F x1 _ _ hf _ _ _ (lv_sub hl [1, 2] rfl) hW
      · replace hf := (if_neg c6).symm.trans hf
        refine lv_iload_n hx hb dX0_byteAt_30 rfl (lv_at hl 0 rfl) ?_
        refine lv_if_le (tgt := 49) hx hb dX0_byteAt_31 (by decide) (fun c11 => ?_) (fun c11 => ?_)
        · replace hf := (if_pos c11).symm.trans hf
          exact wXX0_byteAt_0_49 F x1 _ _ hf _ _ _ (lv_sub hl [1, 2] rfl) hW
        · replace hf := (if_neg c11).symm.trans hf
          refine lv_aload_n hx hb dX0_byteAt_34 rfl (lv_at hl 1 rfl) ?_
          refine gw_get (v := .ref (ka K 4)) F inc_X0 hW 0 0 2 (aX_0 K o2.2) rfl (by decide) (hG _ q_1_225) (fun _ h9 => h9) rfl dX0_byteAt_35 ?_
          refine lv_iload_n hx hb dX0_byteAt_38 rfl (lv_at hl 0 rfl) ?_
          obtain ⟨o12, h13, hf⟩ := gw_bind hf
          refine gw_Vz (As := [.int (x1 / (1024 : Int32))]) (mc' := 0) (ms' := 0) F hW (mXX3_isUsed_4 h13) (cwV 1 hts (gT_V q_2_47 q_2_48 q_2_49 q_1_5 q_2_50) rfl rfl rfl hdX3_isUsed ⟨Nat.le_of_ble_eq_true rfl, Nat.le_of_ble_eq_true rfl⟩) 4 3 (aX_4 K o2.2) rfl rfl hl.1 rfl (Nat.le_of_ble_eq_true rfl) dX0_byteAt_39 ⟨Nat.le_of_ble_eq_true rfl, Nat.le_of_ble_eq_true rfl⟩ rfl rfl (fun H locs z14 hW => ?_)
          refine lv_if_ne (tgt := 49) hx hb dX0_byteAt_42 (by decide) (fun c15 => ?_) (fun c15 => ?_)
          · replace hf := (if_neg c15).symm.trans hf
            exact wXX0_byteAt_0_49 F x1 _ _ hf _ _ _ (lv_sub hl [1, 2] rfl) hW
          · replace hf := (if_pos c15).symm.trans hf
            refine lv_iconst (v := (1 : Int32)) hx hb dX0_byteAt_45 (by decide) ?_
            refine lv_goto (tgt := 50) hx hb dX0_byteAt_46 (by decide) ?_
            exact wXX0_byteAt_0_50 F x1 (1 : Int32) _ _ hf _ _ _ (lv_sub hl [1, 2] rfl) hW
    · replace hf := (if_neg c5).symm.trans hf
      refine lv_iconst (v := (-1 : Int32)) hx hb dX0_byteAt_15 (by decide) ?_
      exact gw_reti F hW hf dX0_byteAt_16
set_option maxHeartbeats 4000000 in
set_option maxRecDepth 100000 in
theorem mXX0_byteAt_0 {l : Launch} {K : KX} {σ : XS} {x1 : Int32} {o : (Int32 × XS)} (hf : fXX0_byteAt_0 (kn K) x1 σ = some o) : gw_Mi l (kD K) vwCl (tyX K) (wX K) yX0_byteAt wsX0_byteAt rXX0_byteAt_0 [.ref (ka K 0), .int x1] σ o := by
  intro sz
  refine gw_body (cc := cX0_byteAt) (maxL := 4) (yret := some .int) (by decide +kernel) rfl ?_ (Nat.le_of_ble_eq_true rfl)
  intro p e s m below meth c F hsz hW ls hl
  exact wXX0_byteAt_0_0 F x1 σ o hf s.heap [] ls hl hW
abbrev rXJ2_fill_13 : Room := { frames := 0, cells := 0, slots := 0, locals := 0 }
def PXJ2_fill_13_5 (p : Program) (l : Launch) (e : Env) (s : State) (m : MethodId) (args : Array Value) (below : List Frame) (meth : Method) (c : Code) (A : Nat → Prop) (K : KX) (t : (Int32 × Int32 × Int32 × XS)) (o : XS) : Prop := ∀ (H : Heap) (locs : List Loc) (ls : Array Slot), lv_has ls 4 [(0, .ref (ka K 13)), (1, .int t.1), (2, .int t.2.1), (3, .int t.2.2.1)] → gw_ (kD K) vwCl (tyX K) (wX K) A s t.2.2.2 H locs → W p l e rXJ2_fill_13 s m args below meth c H locs 0 0 (MQ below (gw_Qv (kD K) vwCl (tyX K) (wX K) A o) args s rXJ2_fill_13.cells rXJ2_fill_13.slots A) (F0 m 5 ls [])
set_option maxHeartbeats 4000000 in
set_option maxRecDepth 100000 in
theorem wXJ2_fill_13_5 {p : Program} {l : Launch} {e : Env} {s : State} {m : MethodId} {args : Array Value} {below : List Frame} {meth : Method} {c : Code} {A : Nat → Prop} {K : KX} (F : fx_ p s m args meth c cJ2_fill 4 none RJ2 wsJ2_fill) {k5 : (Int32 × Int32 × Int32 × XS) → Option XS} (hk5 : ∀ t o, k5 t = some o → PXJ2_fill_13_5 p l e s m args below meth c A K t o) (x1 : Int32) (x2 : Int32) (x3 : Int32) (σ : XS) (o : XS) (hf : fXJ2_fill_13_5 (kn K) k5 x1 x2 x3 σ = some o) (H : Heap) (locs : List Loc) (ls : Array Slot) (hl : lv_has ls 4 [(0, .ref (ka K 13)), (1, .int x1), (2, .int x2), (3, .int x3)]) (hW : gw_ (kD K) vwCl (tyX K) (wX K) A s σ H locs) : W p l e rXJ2_fill_13 s m args below meth c H locs 0 0 (MQ below (gw_Qv (kD K) vwCl (tyX K) (wX K) A o) args s rXJ2_fill_13.cells rXJ2_fill_13.slots A) (F0 m 5 ls []) := by
  have hx := F.1
  have hb := F.2.1
  have hml := F.2.2.2.1
  have hown := F.2.2.2.2.1
  have hts := F.2.2.2.2.2.1
  have hG : ∀ x ∈ gT, x.before args s = true := fun x h => hts x (List.mem_cons_of_mem _ h)
  unfold fXJ2_fill_13_5 at hf
  refine lv_iload_n hx hb dJ2_fill_5 rfl (lv_at hl 2 rfl) ?_
  refine lv_iload_n hx hb dJ2_fill_6 rfl (lv_at hl 3 rfl) ?_
  refine lv_icmp_ge (tgt := 20) hx hb dJ2_fill_7 (by decide) (fun c1 => ?_) (fun c1 => ?_)
  · replace hf := (if_pos c1).symm.trans hf
    exact gw_retv F hW hf dJ2_fill_20
  · replace hf := (if_neg c1).symm.trans hf
    refine lv_aload_n hx hb dJ2_fill_10 rfl (lv_at hl 0 rfl) ?_
    refine lv_iload_n hx hb dJ2_fill_11 rfl (lv_at hl 2 rfl) ?_
    refine lv_iload_n hx hb dJ2_fill_12 rfl (lv_at hl 1 rfl) ?_
    rcases Decidable.em (x2 < 0 ∨ (kn K) ≤ x2.toNatClampNeg) with c2 | c2
    · replace hf := (if_pos c2).symm.trans hf
      exact absurd hf (by simp)
    · replace hf := (if_neg c2).symm.trans hf
      refine gw_bast (σ' := (stA σ 3 x2.toNatClampNeg (vp_nar .byte x1))) F hW 13 3 (aX_13 K σ) rfl c2 dJ2_fill_13 (sAX_3 _ _ _) (fun H locs hW => ?_)
      refine lv_iinc (v := (x2 + (1 : Int32))) (lv' := [(2, .int (x2 + (1 : Int32))), (0, .ref (ka K 13)), (1, .int x1), (3, .int x3)]) hx hb dJ2_fill_14 hl (k := 2) rfl rfl (by decide) rfl (fun ls hl => ?_)
      refine lv_goto (tgt := 5) hx hb dJ2_fill_17 (by decide) ?_
      exact hk5 _ _ hf _ _ _ (lv_sub hl [1, 2, 0, 3] rfl) hW
set_option maxHeartbeats 4000000 in
set_option maxRecDepth 100000 in
theorem wXJ2_fill_13_0 {p : Program} {l : Launch} {e : Env} {s : State} {m : MethodId} {args : Array Value} {below : List Frame} {meth : Method} {c : Code} {A : Nat → Prop} {K : KX} (F : fx_ p s m args meth c cJ2_fill 4 none RJ2 wsJ2_fill) (x1 : Int32) (σ : XS) (o : XS) (hf : fXJ2_fill_13_0 (kn K) x1 σ = some o) (H : Heap) (locs : List Loc) (ls : Array Slot) (hl : lv_has ls 4 [(0, .ref (ka K 13)), (1, .int x1)]) (hW : gw_ (kD K) vwCl (tyX K) (wX K) A s σ H locs) : W p l e rXJ2_fill_13 s m args below meth c H locs 0 0 (MQ below (gw_Qv (kD K) vwCl (tyX K) (wX K) A o) args s rXJ2_fill_13.cells rXJ2_fill_13.slots A) (F0 m 0 ls []) := by
  have hx := F.1
  have hb := F.2.1
  have hml := F.2.2.2.1
  have hown := F.2.2.2.2.1
  have hts := F.2.2.2.2.2.1
  have hG : ∀ x ∈ gT, x.before args s = true := fun x h => hts x (List.mem_cons_of_mem _ h)
  unfold fXJ2_fill_13_0 at hf
  refine lv_iconst (v := (0 : Int32)) hx hb dJ2_fill_0 (by decide) ?_
  refine lv_istore_n (lv' := [(2, .int (0 : Int32)), (0, .ref (ka K 13)), (1, .int x1)]) hx hb dJ2_fill_1 rfl hl (by decide) rfl (fun ls hl => ?_)
  refine lv_aload_n hx hb dJ2_fill_2 rfl (lv_at hl 1 rfl) ?_
  refine gw_alen F hW 13 3 (aX_13 K σ) rfl dJ2_fill_3 ?_
  refine lv_istore_n (lv' := [(3, .int (Int32.ofNat (kn K))), (2, .int (0 : Int32)), (0, .ref (ka K 13)), (1, .int x1)]) hx hb dJ2_fill_4 rfl hl (by decide) rfl (fun ls hl => ?_)
  exact lfix_ind (P := PXJ2_fill_13_5 p l e s m args below meth c A K) (fun k5 hk5 t o hf => wXJ2_fill_13_5 F hk5 t.1 t.2.1 t.2.2.1 t.2.2.2 o hf) FU _ _ hf _ _ _ (lv_sub hl [2, 3, 1, 0] rfl) hW
set_option maxHeartbeats 4000000 in
set_option maxRecDepth 100000 in
theorem mXJ2_fill_13 {l : Launch} {K : KX} {σ : XS} {x1 : Int32} {o : XS} (hf : fXJ2_fill_13 (kn K) x1 σ = some o) : gw_Mv l (kD K) vwCl (tyX K) (wX K) yJ2_fill wsJ2_fill rXJ2_fill_13 [.ref (ka K 13), .int x1] σ o := by
  intro sz
  refine gw_body (cc := cJ2_fill) (maxL := 4) (yret := none) (by decide +kernel) rfl ?_ (Nat.le_of_ble_eq_true rfl)
  intro p e s m below meth c F hsz hW ls hl
  exact wXJ2_fill_13_0 F x1 σ o hf s.heap [] ls hl hW
abbrev rXX7_claim_10 : Room := { frames := 0, cells := 0, slots := 0, locals := 0 }
set_option maxHeartbeats 4000000 in
set_option maxRecDepth 100000 in
theorem wXX7_claim_10_0 {p : Program} {l : Launch} {e : Env} {s : State} {m : MethodId} {args : Array Value} {below : List Frame} {meth : Method} {c : Code} {A : Nat → Prop} {K : KX} (F : fx_ p s m args meth c cX7_claim 2 (some .boolean) RX7 wsX7_claim) (x1 : Int32) (σ : XS) (o : (Int32 × XS)) (hf : fXX7_claim_10_0 (kn K) x1 σ = some o) (H : Heap) (locs : List Loc) (ls : Array Slot) (hl : lv_has ls 2 [(0, .ref (ka K 10)), (1, .int x1)]) (hW : gw_ (kD K) vwCl (tyX K) (wX K) A s σ H locs) : W p l e rXX7_claim_10 s m args below meth c H locs 0 0 (MQ below (va_Qi (fun r u => (r = o.1 ∧ u = o.2) ∧ (o.1 = 0 ∨ o.1 = 1)) (gw_B (kD K) vwCl (tyX K) (wX K) A) A) args s rXX7_claim_10.cells rXX7_claim_10.slots A) (F0 m 0 ls []) := by
  have hx := F.1
  have hb := F.2.1
  have hml := F.2.2.2.1
  have hown := F.2.2.2.2.1
  have hts := F.2.2.2.2.2.1
  have hG : ∀ x ∈ gT, x.before args s = true := fun x h => hts x (List.mem_cons_of_mem _ h)
  unfold fXX7_claim_10_0 at hf
  refine lv_iload_n hx hb dX7_claim_0 rfl (lv_at hl 1 rfl) ?_
  refine lv_iconst (v := (1 : Int32)) hx hb dX7_claim_1 (by decide) ?_
  refine lv_icmp_lt (tgt := 23) hx hb dX7_claim_2 (by decide) (fun c1 => ?_) (fun c1 => ?_)
  · replace hf := (if_pos c1).symm.trans hf
    refine lv_iconst (v := (0 : Int32)) hx hb dX7_claim_23 (by decide) ?_
    exact gw_retz F hW hf (Or.inl rfl) dX7_claim_24
  · replace hf := (if_neg c1).symm.trans hf
    refine lv_iload_n hx hb dX7_claim_5 rfl (lv_at hl 1 rfl) ?_
    refine lv_aload_n hx hb dX7_claim_6 rfl (lv_at hl 0 rfl) ?_
    refine gw_get (v := .ref (ka K 13)) F inc_X7 hW 10 7 8 (aX_10 K σ) rfl (by decide) (hG _ q_1_178) (fun _ h9 => h9) rfl dX7_claim_7 ?_
    refine gw_alen F hW 13 3 (aX_13 K σ) rfl dX7_claim_10 ?_
    refine lv_icmp_ge (tgt := 23) hx hb dX7_claim_11 (by decide) (fun c2 => ?_) (fun c2 => ?_)
    · replace hf := (if_pos c2).symm.trans hf
      refine lv_iconst (v := (0 : Int32)) hx hb dX7_claim_23 (by decide) ?_
      exact gw_retz F hW hf (Or.inl rfl) dX7_claim_24
    · replace hf := (if_neg c2).symm.trans hf
      refine lv_aload_n hx hb dX7_claim_14 rfl (lv_at hl 0 rfl) ?_
      refine gw_get (v := .ref (ka K 13)) F inc_X7 hW 10 7 8 (aX_10 K σ) rfl (by decide) (hG _ q_1_178) (fun _ h9 => h9) rfl dX7_claim_15 ?_
      refine lv_iload_n hx hb dX7_claim_18 rfl (lv_at hl 1 rfl) ?_
      rcases Decidable.em (x1 < 0 ∨ (kn K) ≤ x1.toNatClampNeg) with c3 | c3
      · replace hf := (if_pos c3).symm.trans hf
        exact absurd hf (by simp)
      · replace hf := (if_neg c3).symm.trans hf
        refine gw_bald F hW 13 3 (aX_13 K σ) rfl c3 dX7_claim_19 ?_
        refine lv_if_eq (tgt := 25) hx hb dX7_claim_20 (by decide) (fun c4 => ?_) (fun c4 => ?_)
        · replace hf := (if_pos c4).symm.trans hf
          refine lv_aload_n hx hb dX7_claim_25 rfl (lv_at hl 0 rfl) ?_
          refine gw_get (v := .ref (ka K 13)) F inc_X7 hW 10 7 8 (aX_10 K σ) rfl (by decide) (hG _ q_1_178) (fun _ h9 => h9) rfl dX7_claim_26 ?_
          refine lv_iload_n hx hb dX7_claim_29 rfl (lv_at hl 1 rfl) ?_
          refine lv_iconst (v := (1 : Int32)) hx hb dX7_claim_30 (by decide) ?_
          rcases Decidable.em (x1 < 0 ∨ (kn K) ≤ x1.toNatClampNeg) with c5 | c5
          · replace hf := (if_pos c5).symm.trans hf
            exact absurd hf (by simp)
          · replace hf := (if_neg c5).symm.trans hf
            refine gw_bast (σ' := (stA σ 3 x1.toNatClampNeg (vp_nar .byte (1 : Int32)))) F hW 13 3 (aX_13 K σ) rfl c5 dX7_claim_31 (sAX_3 _ _ _) (fun H locs hW => ?_)
            refine lv_iconst (v := (1 : Int32)) hx hb dX7_claim_32 (by decide) ?_
            exact gw_retz F hW hf (Or.inr rfl) dX7_claim_33
        · replace hf := (if_neg c4).symm.trans hf
          refine lv_iconst (v := (0 : Int32)) hx hb dX7_claim_23 (by decide) ?_
          exact gw_retz F hW hf (Or.inl rfl) dX7_claim_24
set_option maxHeartbeats 4000000 in
set_option maxRecDepth 100000 in
theorem mXX7_claim_10 {l : Launch} {K : KX} {σ : XS} {x1 : Int32} {o : (Int32 × XS)} (hf : fXX7_claim_10 (kn K) x1 σ = some o) : gw_Mz l (kD K) vwCl (tyX K) (wX K) yX7_claim wsX7_claim rXX7_claim_10 [.ref (ka K 10), .int x1] σ o := by
  intro sz
  refine gw_body (cc := cX7_claim) (maxL := 2) (yret := some .boolean) (by decide +kernel) rfl ?_ (Nat.le_of_ble_eq_true rfl)
  intro p e s m below meth c F hsz hW ls hl
  exact wXX7_claim_10_0 F x1 σ o hf s.heap [] ls hl hW
abbrev rXX7_claimFixed_10 : Room := { frames := 1, cells := 0, slots := 0, locals := 23 }
def PXX7_claimFixed_10_23 (p : Program) (l : Launch) (e : Env) (s : State) (m : MethodId) (args : Array Value) (below : List Frame) (meth : Method) (c : Code) (A : Nat → Prop) (K : KX) (t : (Int32 × Int32 × XS)) (o : XS) : Prop := ∀ (H : Heap) (locs : List Loc) (ls : Array Slot), lv_has ls 3 [(0, .ref (ka K 10)), (1, .int t.1), (2, .int t.2.1)] → gw_ (kD K) vwCl (tyX K) (wX K) A s t.2.2 H locs → W p l e rXX7_claimFixed_10 s m args below meth c H locs 0 0 (MQ below (gw_Qv (kD K) vwCl (tyX K) (wX K) A o) args s rXX7_claimFixed_10.cells rXX7_claimFixed_10.slots A) (F0 m 23 ls [])
def PXX7_claimFixed_10_10 (p : Program) (l : Launch) (e : Env) (s : State) (m : MethodId) (args : Array Value) (below : List Frame) (meth : Method) (c : Code) (A : Nat → Prop) (K : KX) (t : (Int32 × XS)) (o : XS) : Prop := ∀ (H : Heap) (locs : List Loc) (ls : Array Slot), lv_has ls 3 [(0, .ref (ka K 10)), (1, .int t.1)] → gw_ (kD K) vwCl (tyX K) (wX K) A s t.2 H locs → W p l e rXX7_claimFixed_10 s m args below meth c H locs 0 0 (MQ below (gw_Qv (kD K) vwCl (tyX K) (wX K) A o) args s rXX7_claimFixed_10.cells rXX7_claimFixed_10.slots A) (F0 m 10 ls [])
set_option maxHeartbeats 4000000 in
set_option maxRecDepth 100000 in
theorem wXX7_claimFixed_10_23 {p : Program} {l : Launch} {e : Env} {s : State} {m : MethodId} {args : Array Value} {below : List Frame} {meth : Method} {c : Code} {A : Nat → Prop} {K : KX} (F : fx_ p s m args meth c cX7_claimFixed 3 none RX7 wsX7_claimFixed) {k10 : (Int32 × XS) → Option XS} (hk10 : ∀ t o, k10 t = some o → PXX7_claimFixed_10_10 p l e s m args below meth c A K t o) {k23 : (Int32 × Int32 × XS) → Option XS} (hk23 : ∀ t o, k23 t = some o → PXX7_claimFixed_10_23 p l e s m args below meth c A K t o) (x1 : Int32) (x2 : Int32) (σ : XS) (o : XS) (hf : fXX7_claimFixed_10_23 (kn K) k10 k23 x1 x2 σ = some o) (H : Heap) (locs : List Loc) (ls : Array Slot) (hl : lv_has ls 3 [(0, .ref (ka K 10)), (1, .int x1), (2, .int x2)]) (hW : gw_ (kD K) vwCl (tyX K) (wX K) A s σ H locs) : W p l e rXX7_claimFixed_10 s m args below meth c H locs 0 0 (MQ below (gw_Qv (kD K) vwCl (tyX K) (wX K) A o) args s rXX7_claimFixed_10.cells rXX7_claimFixed_10.slots A) (F0 m 23 ls []) := by
  have hx := F.1
  have hb := F.2.1
  have hml := F.2.2.2.1
  have hown := F.2.2.2.2.1
  have hts := F.2.2.2.2.2.1
  have hG : ∀ x ∈ gT, x.before args s = true := fun x h => hts x (List.mem_cons_of_mem _ h)
  unfold fXX7_claimFixed_10_23 at hf
  refine lv_iload_n hx hb dX7_claimFixed_23 rfl (lv_at hl 2 rfl) ?_
  refine lv_aload_n hx hb dX7_claimFixed_24 rfl (lv_at hl 0 rfl) ?_
  refine gw_get (v := .ref (ka K 3)) F inc_X7 hW 10 7 1 (aX_10 K σ) rfl (by decide) (hG _ q_1_171) (fun _ h9 => h9) rfl dX7_claimFixed_25 ?_
  obtain ⟨o8, h9, hf⟩ := gw_bind hf
  refine gw_Vi (As := []) (mc' := 0) (ms' := 0) F hW (mXX2_fixedBlocks_3 h9) (cwV 0 hts (gT_V q_2_77 q_2_78 q_2_79 q_1_4 q_2_80) rfl rfl rfl hdX2_fixedBlocks ⟨Nat.le_of_ble_eq_true rfl, Nat.le_of_ble_eq_true rfl⟩) 3 2 (aX_3 K σ) rfl rfl hl.1 rfl (Nat.le_of_ble_eq_true rfl) dX7_claimFixed_28 ⟨Nat.le_of_ble_eq_true rfl, Nat.le_of_ble_eq_true rfl⟩ rfl rfl (fun H locs hW => ?_)
  refine lv_icmp_ge (tgt := 55) hx hb dX7_claimFixed_31 (by decide) (fun c11 => ?_) (fun c11 => ?_)
  · replace hf := (if_pos c11).symm.trans hf
    refine lv_iinc (v := (x1 + (1 : Int32))) (lv' := [(1, .int (x1 + (1 : Int32))), (0, .ref (ka K 10)), (2, .int x2)]) hx hb dX7_claimFixed_55 hl (k := 1) rfl rfl (by decide) rfl (fun ls hl => ?_)
    refine lv_goto (tgt := 10) hx hb dX7_claimFixed_58 (by decide) ?_
    exact hk10 _ _ hf _ _ _ (lv_sub hl [1, 0] rfl) hW
  · replace hf := (if_neg c11).symm.trans hf
    refine lv_aload_n hx hb dX7_claimFixed_34 rfl (lv_at hl 0 rfl) ?_
    refine lv_aload_n hx hb dX7_claimFixed_35 rfl (lv_at hl 0 rfl) ?_
    refine gw_get (v := .ref (ka K 3)) F inc_X7 hW 10 7 1 (aX_10 K o8.2) rfl (by decide) (hG _ q_1_171) (fun _ h9 => h9) rfl dX7_claimFixed_36 ?_
    refine lv_iload_n hx hb dX7_claimFixed_39 rfl (lv_at hl 1 rfl) ?_
    obtain ⟨o12, h13, hf⟩ := gw_bind hf
    refine gw_Vi (As := [.int x1]) (mc' := 0) (ms' := 0) F hW (mXX2_firstBlock_3 h13) (cwV 1 hts (gT_V q_2_81 q_2_82 q_2_83 q_1_4 q_2_84) rfl rfl rfl hdX2_firstBlock ⟨Nat.le_of_ble_eq_true rfl, Nat.le_of_ble_eq_true rfl⟩) 3 2 (aX_3 K o8.2) rfl rfl hl.1 rfl (Nat.le_of_ble_eq_true rfl) dX7_claimFixed_40 ⟨Nat.le_of_ble_eq_true rfl, Nat.le_of_ble_eq_true rfl⟩ rfl rfl (fun H locs hW => ?_)
    refine lv_iload_n hx hb dX7_claimFixed_43 rfl (lv_at hl 2 rfl) ?_
    refine lv_iadd hx hb dX7_claimFixed_44 ?_
    obtain ⟨o15, h16, hf⟩ := gw_bind hf
    refine gw_Vz (As := [.int (o12.1 + x2)]) (mc' := 0) (ms' := 0) F hW (mXX7_claim_10 h16) (cwV 1 hts (gT_V q_2_85 q_2_87 qp_1 q_1_9 q_2_88) rfl rfl rfl hdX7_claim ⟨Nat.le_of_ble_eq_true rfl, Nat.le_of_ble_eq_true rfl⟩) 10 7 (aX_10 K o12.2) rfl rfl hl.1 rfl (Nat.le_of_ble_eq_true rfl) dX7_claimFixed_45 ⟨Nat.le_of_ble_eq_true rfl, Nat.le_of_ble_eq_true rfl⟩ rfl rfl (fun H locs z17 hW => ?_)
    refine lv_pop hx hb dX7_claimFixed_48 rfl ?_
    refine lv_iinc (v := (x2 + (1 : Int32))) (lv' := [(2, .int (x2 + (1 : Int32))), (0, .ref (ka K 10)), (1, .int x1)]) hx hb dX7_claimFixed_49 hl (k := 2) rfl rfl (by decide) rfl (fun ls hl => ?_)
    refine lv_goto (tgt := 23) hx hb dX7_claimFixed_52 (by decide) ?_
    exact hk23 _ _ hf _ _ _ (lv_sub hl [1, 2, 0] rfl) hW
set_option maxHeartbeats 4000000 in
set_option maxRecDepth 100000 in
theorem wXX7_claimFixed_10_10 {p : Program} {l : Launch} {e : Env} {s : State} {m : MethodId} {args : Array Value} {below : List Frame} {meth : Method} {c : Code} {A : Nat → Prop} {K : KX} (F : fx_ p s m args meth c cX7_claimFixed 3 none RX7 wsX7_claimFixed) {k10 : (Int32 × XS) → Option XS} (hk10 : ∀ t o, k10 t = some o → PXX7_claimFixed_10_10 p l e s m args below meth c A K t o) (x1 : Int32) (σ : XS) (o : XS) (hf : fXX7_claimFixed_10_10 (kn K) k10 x1 σ = some o) (H : Heap) (locs : List Loc) (ls : Array Slot) (hl : lv_has ls 3 [(0, .ref (ka K 10)), (1, .int x1)]) (hW : gw_ (kD K) vwCl (tyX K) (wX K) A s σ H locs) : W p l e rXX7_claimFixed_10 s m args below meth c H locs 0 0 (MQ below (gw_Qv (kD K) vwCl (tyX K) (wX K) A o) args s rXX7_claimFixed_10.cells rXX7_claimFixed_10.slots A) (F0 m 10 ls []) := by
  have hx := F.1
  have hb := F.2.1
  have hml := F.2.2.2.1
  have hown := F.2.2.2.2.1
  have hts := F.2.2.2.2.2.1
  have hG : ∀ x ∈ gT, x.before args s = true := fun x h => hts x (List.mem_cons_of_mem _ h)
  unfold fXX7_claimFixed_10_10 at hf
  refine lv_iload_n hx hb dX7_claimFixed_10 rfl (lv_at hl 1 rfl) ?_
  refine lv_aload_n hx hb dX7_claimFixed_11 rfl (lv_at hl 0 rfl) ?_
  refine gw_get (v := .ref (ka K 3)) F inc_X7 hW 10 7 1 (aX_10 K σ) rfl (by decide) (hG _ q_1_171) (fun _ h9 => h9) rfl dX7_claimFixed_12 ?_
  obtain ⟨o4, h5, hf⟩ := gw_bind hf
  refine gw_Vi (As := []) (mc' := 0) (ms' := 0) F hW (mXX2_groups_3 h5) (cwV 0 hts (gT_V q_2_73 q_2_74 q_2_75 q_1_4 q_2_76) rfl rfl rfl hdX2_groups ⟨Nat.le_of_ble_eq_true rfl, Nat.le_of_ble_eq_true rfl⟩) 3 2 (aX_3 K σ) rfl rfl hl.1 rfl (Nat.le_of_ble_eq_true rfl) dX7_claimFixed_15 ⟨Nat.le_of_ble_eq_true rfl, Nat.le_of_ble_eq_true rfl⟩ rfl rfl (fun H locs hW => ?_)
  refine lv_icmp_ge (tgt := 61) hx hb dX7_claimFixed_18 (by decide) (fun c7 => ?_) (fun c7 => ?_)
  · replace hf := (if_pos c7).symm.trans hf
    exact gw_retv F hW hf dX7_claimFixed_61
  · replace hf := (if_neg c7).symm.trans hf
    refine lv_iconst (v := (0 : Int32)) hx hb dX7_claimFixed_21 (by decide) ?_
    refine lv_istore_n (lv' := [(2, .int (0 : Int32)), (0, .ref (ka K 10)), (1, .int x1)]) hx hb dX7_claimFixed_22 rfl hl (by decide) rfl (fun ls hl => ?_)
    exact lfix_ind (P := PXX7_claimFixed_10_23 p l e s m args below meth c A K) (fun k23 hk23 t o hf => wXX7_claimFixed_10_23 F hk10 hk23 t.1 t.2.1 t.2.2 o hf) FU _ _ hf _ _ _ (lv_sub hl [1, 2, 0] rfl) hW
set_option maxHeartbeats 4000000 in
set_option maxRecDepth 100000 in
theorem wXX7_claimFixed_10_0 {p : Program} {l : Launch} {e : Env} {s : State} {m : MethodId} {args : Array Value} {below : List Frame} {meth : Method} {c : Code} {A : Nat → Prop} {K : KX} (F : fx_ p s m args meth c cX7_claimFixed 3 none RX7 wsX7_claimFixed) (σ : XS) (o : XS) (hf : fXX7_claimFixed_10_0 (kn K) σ = some o) (H : Heap) (locs : List Loc) (ls : Array Slot) (hl : lv_has ls 3 [(0, .ref (ka K 10))]) (hW : gw_ (kD K) vwCl (tyX K) (wX K) A s σ H locs) : W p l e rXX7_claimFixed_10 s m args below meth c H locs 0 0 (MQ below (gw_Qv (kD K) vwCl (tyX K) (wX K) A o) args s rXX7_claimFixed_10.cells rXX7_claimFixed_10.slots A) (F0 m 0 ls []) := by
  have hx := F.1
  have hb := F.2.1
  have hml := F.2.2.2.1
  have hown := F.2.2.2.2.1
  have hts := F.2.2.2.2.2.1
  have hG : ∀ x ∈ gT, x.before args s = true := fun x h => hts x (List.mem_cons_of_mem _ h)
  unfold fXX7_claimFixed_10_0 at hf
  refine lv_aload_n hx hb dX7_claimFixed_0 rfl (lv_at hl 0 rfl) ?_
  refine gw_get (v := .ref (ka K 13)) F inc_X7 hW 10 7 8 (aX_10 K σ) rfl (by decide) (hG _ q_1_178) (fun _ h9 => h9) rfl dX7_claimFixed_1 ?_
  refine lv_iconst (v := (0 : Int32)) hx hb dX7_claimFixed_4 (by decide) ?_
  obtain ⟨o1, h2, hf⟩ := gw_bind hf
  refine gw_Sv (As := [.ref (ka K 13), .int (0 : Int32)]) (mc' := 0) (ms' := 0) F hW (mXJ2_fill_13 h2) (va_cwS 2 hts (gT_S q_2_72 q_2_37 q_1_14 q_2_38) rfl rfl rfl hdJ2_fill.2 ⟨Nat.le_of_ble_eq_true rfl, Nat.le_of_ble_eq_true rfl⟩) rfl hl.1 rfl (Nat.le_of_ble_eq_true rfl) dX7_claimFixed_5 ⟨Nat.le_of_ble_eq_true rfl, Nat.le_of_ble_eq_true rfl⟩ rfl rfl (fun H locs hW => ?_)
  refine lv_iconst (v := (0 : Int32)) hx hb dX7_claimFixed_8 (by decide) ?_
  refine lv_istore_n (lv' := [(1, .int (0 : Int32)), (0, .ref (ka K 10))]) hx hb dX7_claimFixed_9 rfl hl (by decide) rfl (fun ls hl => ?_)
  exact lfix_ind (P := PXX7_claimFixed_10_10 p l e s m args below meth c A K) (fun k10 hk10 t o hf => wXX7_claimFixed_10_10 F hk10 t.1 t.2 o hf) FU _ _ hf _ _ _ (lv_sub hl [1, 0] rfl) hW
set_option maxHeartbeats 4000000 in
set_option maxRecDepth 100000 in
theorem mXX7_claimFixed_10 {l : Launch} {K : KX} {σ : XS} {o : XS} (hf : fXX7_claimFixed_10 (kn K) σ = some o) : gw_Mv l (kD K) vwCl (tyX K) (wX K) yX7_claimFixed wsX7_claimFixed rXX7_claimFixed_10 [.ref (ka K 10)] σ o := by
  intro sz
  refine gw_body (cc := cX7_claimFixed) (maxL := 3) (yret := none) (by decide +kernel) rfl ?_ (Nat.le_of_ble_eq_true rfl)
  intro p e s m below meth c F hsz hW ls hl
  exact wXX7_claimFixed_10_0 F σ o hf s.heap [] ls hl hW
abbrev rXJ2_fill__14 : Room := { frames := 0, cells := 0, slots := 0, locals := 0 }
def PXJ2_fill__14_5 (p : Program) (l : Launch) (e : Env) (s : State) (m : MethodId) (args : Array Value) (below : List Frame) (meth : Method) (c : Code) (A : Nat → Prop) (K : KX) (t : (Int32 × Int32 × Int32 × XS)) (o : XS) : Prop := ∀ (H : Heap) (locs : List Loc) (ls : Array Slot), lv_has ls 4 [(0, .ref (ka K 14)), (1, .int t.1), (2, .int t.2.1), (3, .int t.2.2.1)] → gw_ (kD K) vwCl (tyX K) (wX K) A s t.2.2.2 H locs → W p l e rXJ2_fill__14 s m args below meth c H locs 0 0 (MQ below (gw_Qv (kD K) vwCl (tyX K) (wX K) A o) args s rXJ2_fill__14.cells rXJ2_fill__14.slots A) (F0 m 5 ls [])
set_option maxHeartbeats 4000000 in
set_option maxRecDepth 100000 in
theorem wXJ2_fill__14_5 {p : Program} {l : Launch} {e : Env} {s : State} {m : MethodId} {args : Array Value} {below : List Frame} {meth : Method} {c : Code} {A : Nat → Prop} {K : KX} (F : fx_ p s m args meth c cJ2_fill_ 4 none RJ2 wsJ2_fill_) {k5 : (Int32 × Int32 × Int32 × XS) → Option XS} (hk5 : ∀ t o, k5 t = some o → PXJ2_fill__14_5 p l e s m args below meth c A K t o) (x1 : Int32) (x2 : Int32) (x3 : Int32) (σ : XS) (o : XS) (hf : fXJ2_fill__14_5 (kn K) k5 x1 x2 x3 σ = some o) (H : Heap) (locs : List Loc) (ls : Array Slot) (hl : lv_has ls 4 [(0, .ref (ka K 14)), (1, .int x1), (2, .int x2), (3, .int x3)]) (hW : gw_ (kD K) vwCl (tyX K) (wX K) A s σ H locs) : W p l e rXJ2_fill__14 s m args below meth c H locs 0 0 (MQ below (gw_Qv (kD K) vwCl (tyX K) (wX K) A o) args s rXJ2_fill__14.cells rXJ2_fill__14.slots A) (F0 m 5 ls []) := by
  have hx := F.1
  have hb := F.2.1
  have hml := F.2.2.2.1
  have hown := F.2.2.2.2.1
  have hts := F.2.2.2.2.2.1
  have hG : ∀ x ∈ gT, x.before args s = true := fun x h => hts x (List.mem_cons_of_mem _ h)
  unfold fXJ2_fill__14_5 at hf
  refine lv_iload_n hx hb dJ2_fill__5 rfl (lv_at hl 2 rfl) ?_
  refine lv_iload_n hx hb dJ2_fill__6 rfl (lv_at hl 3 rfl) ?_
  refine lv_icmp_ge (tgt := 20) hx hb dJ2_fill__7 (by decide) (fun c1 => ?_) (fun c1 => ?_)
  · replace hf := (if_pos c1).symm.trans hf
    exact gw_retv F hW hf dJ2_fill__20
  · replace hf := (if_neg c1).symm.trans hf
    refine lv_aload_n hx hb dJ2_fill__10 rfl (lv_at hl 0 rfl) ?_
    refine lv_iload_n hx hb dJ2_fill__11 rfl (lv_at hl 2 rfl) ?_
    refine lv_iload_n hx hb dJ2_fill__12 rfl (lv_at hl 1 rfl) ?_
    rcases Decidable.em (x2 < 0 ∨ 2065 ≤ x2.toNatClampNeg) with c2 | c2
    · replace hf := (if_pos c2).symm.trans hf
      exact absurd hf (by simp)
    · replace hf := (if_neg c2).symm.trans hf
      refine gw_iast (σ' := (stA σ 4 x2.toNatClampNeg x1)) F hW 14 4 (aX_14 K σ) rfl c2 dJ2_fill__13 (sAX_4 _ _ _) (fun H locs hW => ?_)
      refine lv_iinc (v := (x2 + (1 : Int32))) (lv' := [(2, .int (x2 + (1 : Int32))), (0, .ref (ka K 14)), (1, .int x1), (3, .int x3)]) hx hb dJ2_fill__14 hl (k := 2) rfl rfl (by decide) rfl (fun ls hl => ?_)
      refine lv_goto (tgt := 5) hx hb dJ2_fill__17 (by decide) ?_
      exact hk5 _ _ hf _ _ _ (lv_sub hl [1, 2, 0, 3] rfl) hW
set_option maxHeartbeats 4000000 in
set_option maxRecDepth 100000 in
theorem wXJ2_fill__14_0 {p : Program} {l : Launch} {e : Env} {s : State} {m : MethodId} {args : Array Value} {below : List Frame} {meth : Method} {c : Code} {A : Nat → Prop} {K : KX} (F : fx_ p s m args meth c cJ2_fill_ 4 none RJ2 wsJ2_fill_) (x1 : Int32) (σ : XS) (o : XS) (hf : fXJ2_fill__14_0 (kn K) x1 σ = some o) (H : Heap) (locs : List Loc) (ls : Array Slot) (hl : lv_has ls 4 [(0, .ref (ka K 14)), (1, .int x1)]) (hW : gw_ (kD K) vwCl (tyX K) (wX K) A s σ H locs) : W p l e rXJ2_fill__14 s m args below meth c H locs 0 0 (MQ below (gw_Qv (kD K) vwCl (tyX K) (wX K) A o) args s rXJ2_fill__14.cells rXJ2_fill__14.slots A) (F0 m 0 ls []) := by
  have hx := F.1
  have hb := F.2.1
  have hml := F.2.2.2.1
  have hown := F.2.2.2.2.1
  have hts := F.2.2.2.2.2.1
  have hG : ∀ x ∈ gT, x.before args s = true := fun x h => hts x (List.mem_cons_of_mem _ h)
  unfold fXJ2_fill__14_0 at hf
  refine lv_iconst (v := (0 : Int32)) hx hb dJ2_fill__0 (by decide) ?_
  refine lv_istore_n (lv' := [(2, .int (0 : Int32)), (0, .ref (ka K 14)), (1, .int x1)]) hx hb dJ2_fill__1 rfl hl (by decide) rfl (fun ls hl => ?_)
  refine lv_aload_n hx hb dJ2_fill__2 rfl (lv_at hl 1 rfl) ?_
  refine gw_alen F hW 14 4 (aX_14 K σ) rfl dJ2_fill__3 ?_
  refine lv_istore_n (lv' := [(3, .int (Int32.ofNat 2065)), (2, .int (0 : Int32)), (0, .ref (ka K 14)), (1, .int x1)]) hx hb dJ2_fill__4 rfl hl (by decide) rfl (fun ls hl => ?_)
  exact lfix_ind (P := PXJ2_fill__14_5 p l e s m args below meth c A K) (fun k5 hk5 t o hf => wXJ2_fill__14_5 F hk5 t.1 t.2.1 t.2.2.1 t.2.2.2 o hf) FU _ _ hf _ _ _ (lv_sub hl [2, 3, 1, 0] rfl) hW
set_option maxHeartbeats 4000000 in
set_option maxRecDepth 100000 in
theorem mXJ2_fill__14 {l : Launch} {K : KX} {σ : XS} {x1 : Int32} {o : XS} (hf : fXJ2_fill__14 (kn K) x1 σ = some o) : gw_Mv l (kD K) vwCl (tyX K) (wX K) yJ2_fill_ wsJ2_fill_ rXJ2_fill__14 [.ref (ka K 14), .int x1] σ o := by
  intro sz
  refine gw_body (cc := cJ2_fill_) (maxL := 4) (yret := none) (by decide +kernel) rfl ?_ (Nat.le_of_ble_eq_true rfl)
  intro p e s m below meth c F hsz hW ls hl
  exact wXJ2_fill__14_0 F x1 σ o hf s.heap [] ls hl hW
abbrev rXJ2_fill__15 : Room := { frames := 0, cells := 0, slots := 0, locals := 0 }
def PXJ2_fill__15_5 (p : Program) (l : Launch) (e : Env) (s : State) (m : MethodId) (args : Array Value) (below : List Frame) (meth : Method) (c : Code) (A : Nat → Prop) (K : KX) (t : (Int32 × Int32 × Int32 × XS)) (o : XS) : Prop := ∀ (H : Heap) (locs : List Loc) (ls : Array Slot), lv_has ls 4 [(0, .ref (ka K 15)), (1, .int t.1), (2, .int t.2.1), (3, .int t.2.2.1)] → gw_ (kD K) vwCl (tyX K) (wX K) A s t.2.2.2 H locs → W p l e rXJ2_fill__15 s m args below meth c H locs 0 0 (MQ below (gw_Qv (kD K) vwCl (tyX K) (wX K) A o) args s rXJ2_fill__15.cells rXJ2_fill__15.slots A) (F0 m 5 ls [])
set_option maxHeartbeats 4000000 in
set_option maxRecDepth 100000 in
theorem wXJ2_fill__15_5 {p : Program} {l : Launch} {e : Env} {s : State} {m : MethodId} {args : Array Value} {below : List Frame} {meth : Method} {c : Code} {A : Nat → Prop} {K : KX} (F : fx_ p s m args meth c cJ2_fill_ 4 none RJ2 wsJ2_fill_) {k5 : (Int32 × Int32 × Int32 × XS) → Option XS} (hk5 : ∀ t o, k5 t = some o → PXJ2_fill__15_5 p l e s m args below meth c A K t o) (x1 : Int32) (x2 : Int32) (x3 : Int32) (σ : XS) (o : XS) (hf : fXJ2_fill__15_5 (kn K) k5 x1 x2 x3 σ = some o) (H : Heap) (locs : List Loc) (ls : Array Slot) (hl : lv_has ls 4 [(0, .ref (ka K 15)), (1, .int x1), (2, .int x2), (3, .int x3)]) (hW : gw_ (kD K) vwCl (tyX K) (wX K) A s σ H locs) : W p l e rXJ2_fill__15 s m args below meth c H locs 0 0 (MQ below (gw_Qv (kD K) vwCl (tyX K) (wX K) A o) args s rXJ2_fill__15.cells rXJ2_fill__15.slots A) (F0 m 5 ls []) := by
  have hx := F.1
  have hb := F.2.1
  have hml := F.2.2.2.1
  have hown := F.2.2.2.2.1
  have hts := F.2.2.2.2.2.1
  have hG : ∀ x ∈ gT, x.before args s = true := fun x h => hts x (List.mem_cons_of_mem _ h)
  unfold fXJ2_fill__15_5 at hf
  refine lv_iload_n hx hb dJ2_fill__5 rfl (lv_at hl 2 rfl) ?_
  refine lv_iload_n hx hb dJ2_fill__6 rfl (lv_at hl 3 rfl) ?_
  refine lv_icmp_ge (tgt := 20) hx hb dJ2_fill__7 (by decide) (fun c1 => ?_) (fun c1 => ?_)
  · replace hf := (if_pos c1).symm.trans hf
    exact gw_retv F hW hf dJ2_fill__20
  · replace hf := (if_neg c1).symm.trans hf
    refine lv_aload_n hx hb dJ2_fill__10 rfl (lv_at hl 0 rfl) ?_
    refine lv_iload_n hx hb dJ2_fill__11 rfl (lv_at hl 2 rfl) ?_
    refine lv_iload_n hx hb dJ2_fill__12 rfl (lv_at hl 1 rfl) ?_
    rcases Decidable.em (x2 < 0 ∨ 2065 ≤ x2.toNatClampNeg) with c2 | c2
    · replace hf := (if_pos c2).symm.trans hf
      exact absurd hf (by simp)
    · replace hf := (if_neg c2).symm.trans hf
      refine gw_iast (σ' := (stA σ 5 x2.toNatClampNeg x1)) F hW 15 5 (aX_15 K σ) rfl c2 dJ2_fill__13 (sAX_5 _ _ _) (fun H locs hW => ?_)
      refine lv_iinc (v := (x2 + (1 : Int32))) (lv' := [(2, .int (x2 + (1 : Int32))), (0, .ref (ka K 15)), (1, .int x1), (3, .int x3)]) hx hb dJ2_fill__14 hl (k := 2) rfl rfl (by decide) rfl (fun ls hl => ?_)
      refine lv_goto (tgt := 5) hx hb dJ2_fill__17 (by decide) ?_
      exact hk5 _ _ hf _ _ _ (lv_sub hl [1, 2, 0, 3] rfl) hW
set_option maxHeartbeats 4000000 in
set_option maxRecDepth 100000 in
theorem wXJ2_fill__15_0 {p : Program} {l : Launch} {e : Env} {s : State} {m : MethodId} {args : Array Value} {below : List Frame} {meth : Method} {c : Code} {A : Nat → Prop} {K : KX} (F : fx_ p s m args meth c cJ2_fill_ 4 none RJ2 wsJ2_fill_) (x1 : Int32) (σ : XS) (o : XS) (hf : fXJ2_fill__15_0 (kn K) x1 σ = some o) (H : Heap) (locs : List Loc) (ls : Array Slot) (hl : lv_has ls 4 [(0, .ref (ka K 15)), (1, .int x1)]) (hW : gw_ (kD K) vwCl (tyX K) (wX K) A s σ H locs) : W p l e rXJ2_fill__15 s m args below meth c H locs 0 0 (MQ below (gw_Qv (kD K) vwCl (tyX K) (wX K) A o) args s rXJ2_fill__15.cells rXJ2_fill__15.slots A) (F0 m 0 ls []) := by
  have hx := F.1
  have hb := F.2.1
  have hml := F.2.2.2.1
  have hown := F.2.2.2.2.1
  have hts := F.2.2.2.2.2.1
  have hG : ∀ x ∈ gT, x.before args s = true := fun x h => hts x (List.mem_cons_of_mem _ h)
  unfold fXJ2_fill__15_0 at hf
  refine lv_iconst (v := (0 : Int32)) hx hb dJ2_fill__0 (by decide) ?_
  refine lv_istore_n (lv' := [(2, .int (0 : Int32)), (0, .ref (ka K 15)), (1, .int x1)]) hx hb dJ2_fill__1 rfl hl (by decide) rfl (fun ls hl => ?_)
  refine lv_aload_n hx hb dJ2_fill__2 rfl (lv_at hl 1 rfl) ?_
  refine gw_alen F hW 15 5 (aX_15 K σ) rfl dJ2_fill__3 ?_
  refine lv_istore_n (lv' := [(3, .int (Int32.ofNat 2065)), (2, .int (0 : Int32)), (0, .ref (ka K 15)), (1, .int x1)]) hx hb dJ2_fill__4 rfl hl (by decide) rfl (fun ls hl => ?_)
  exact lfix_ind (P := PXJ2_fill__15_5 p l e s m args below meth c A K) (fun k5 hk5 t o hf => wXJ2_fill__15_5 F hk5 t.1 t.2.1 t.2.2.1 t.2.2.2 o hf) FU _ _ hf _ _ _ (lv_sub hl [2, 3, 1, 0] rfl) hW
set_option maxHeartbeats 4000000 in
set_option maxRecDepth 100000 in
theorem mXJ2_fill__15 {l : Launch} {K : KX} {σ : XS} {x1 : Int32} {o : XS} (hf : fXJ2_fill__15 (kn K) x1 σ = some o) : gw_Mv l (kD K) vwCl (tyX K) (wX K) yJ2_fill_ wsJ2_fill_ rXJ2_fill__15 [.ref (ka K 15), .int x1] σ o := by
  intro sz
  refine gw_body (cc := cJ2_fill_) (maxL := 4) (yret := none) (by decide +kernel) rfl ?_ (Nat.le_of_ble_eq_true rfl)
  intro p e s m below meth c F hsz hW ls hl
  exact wXJ2_fill__15_0 F x1 σ o hf s.heap [] ls hl hW
abbrev rXX1_isZero_1 : Room := { frames := 1, cells := 0, slots := 0, locals := 21 }
def PXX1_isZero_1_25 (p : Program) (l : Launch) (e : Env) (s : State) (m : MethodId) (args : Array Value) (below : List Frame) (meth : Method) (c : Code) (A : Nat → Prop) (K : KX) (t : (Int32 × Int32 × XS)) (o : (Int32 × XS)) : Prop := ∀ (H : Heap) (locs : List Loc) (ls : Array Slot), lv_has ls 4 [(0, .ref (ka K 1)), (2, .int t.1), (3, .int t.2.1)] → gw_ (kD K) vwCl (tyX K) (wX K) A s t.2.2 H locs → W p l e rXX1_isZero_1 s m args below meth c H locs 0 0 (MQ below (va_Qi (fun r u => (r = o.1 ∧ u = o.2) ∧ (o.1 = 0 ∨ o.1 = 1)) (gw_B (kD K) vwCl (tyX K) (wX K) A) A) args s rXX1_isZero_1.cells rXX1_isZero_1.slots A) (F0 m 25 ls [])
def PXX1_isZero_1_2 (p : Program) (l : Launch) (e : Env) (s : State) (m : MethodId) (args : Array Value) (below : List Frame) (meth : Method) (c : Code) (A : Nat → Prop) (K : KX) (t : (Int32 × Int32 × XS)) (o : (Int32 × XS)) : Prop := ∀ (H : Heap) (locs : List Loc) (ls : Array Slot), lv_has ls 4 [(0, .ref (ka K 1)), (2, .int t.1), (3, .int t.2.1)] → gw_ (kD K) vwCl (tyX K) (wX K) A s t.2.2 H locs → W p l e rXX1_isZero_1 s m args below meth c H locs 0 0 (MQ below (va_Qi (fun r u => (r = o.1 ∧ u = o.2) ∧ (o.1 = 0 ∨ o.1 = 1)) (gw_B (kD K) vwCl (tyX K) (wX K) A) A) args s rXX1_isZero_1.cells rXX1_isZero_1.slots A) (F0 m 2 ls [])
set_option maxHeartbeats 4000000 in
set_option maxRecDepth 100000 in
theorem wXX1_isZero_1_25 {p : Program} {l : Launch} {e : Env} {s : State} {m : MethodId} {args : Array Value} {below : List Frame} {meth : Method} {c : Code} {A : Nat → Prop} {K : KX} (F : fx_ p s m args meth c cX1_isZero 4 (some .boolean) RX1 wsX1_isZero) {k25 : (Int32 × Int32 × XS) → Option (Int32 × XS)} (hk25 : ∀ t o, k25 t = some o → PXX1_isZero_1_25 p l e s m args below meth c A K t o) (x2 : Int32) (x3 : Int32) (σ : XS) (o : (Int32 × XS)) (hf : fXX1_isZero_1_25 (kn K) k25 x2 x3 σ = some o) (H : Heap) (locs : List Loc) (ls : Array Slot) (hl : lv_has ls 4 [(0, .ref (ka K 1)), (2, .int x2), (3, .int x3)]) (hW : gw_ (kD K) vwCl (tyX K) (wX K) A s σ H locs) : W p l e rXX1_isZero_1 s m args below meth c H locs 0 0 (MQ below (va_Qi (fun r u => (r = o.1 ∧ u = o.2) ∧ (o.1 = 0 ∨ o.1 = 1)) (gw_B (kD K) vwCl (tyX K) (wX K) A) A) args s rXX1_isZero_1.cells rXX1_isZero_1.slots A) (F0 m 25 ls []) := by
  have hx := F.1
  have hb := F.2.1
  have hml := F.2.2.2.1
  have hown := F.2.2.2.2.1
  have hts := F.2.2.2.2.2.1
  have hG : ∀ x ∈ gT, x.before args s = true := fun x h => hts x (List.mem_cons_of_mem _ h)
  unfold fXX1_isZero_1_25 at hf
  refine lv_iload_n hx hb dX1_isZero_25 rfl (lv_at hl 2 rfl) ?_
  refine lv_iload_n hx hb dX1_isZero_26 rfl (lv_at hl 1 rfl) ?_
  refine lv_icmp_ge (tgt := 46) hx hb dX1_isZero_27 (by decide) (fun c2 => ?_) (fun c2 => ?_)
  · replace hf := (if_pos c2).symm.trans hf
    refine lv_iconst (v := (1 : Int32)) hx hb dX1_isZero_46 (by decide) ?_
    exact gw_retz F hW hf (Or.inr rfl) dX1_isZero_47
  · replace hf := (if_neg c2).symm.trans hf
    refine lv_aload_n hx hb dX1_isZero_30 rfl (lv_at hl 0 rfl) ?_
    refine lv_iload_n hx hb dX1_isZero_31 rfl (lv_at hl 2 rfl) ?_
    obtain ⟨o3, h4, hf⟩ := gw_bind hf
    refine gw_Vi (As := [.int x3]) (mc' := 0) (ms' := 0) F hW (mXX1_get_1 h4) (cwV 1 hts (gT_V q_2_127 q_2_56 q_2_57 q_1_3 q_2_58) rfl rfl rfl hdX1_get ⟨Nat.le_of_ble_eq_true rfl, Nat.le_of_ble_eq_true rfl⟩) 1 1 (aX_1 K σ) rfl rfl hl.1 rfl (Nat.le_of_ble_eq_true rfl) dX1_isZero_32 ⟨Nat.le_of_ble_eq_true rfl, Nat.le_of_ble_eq_true rfl⟩ rfl rfl (fun H locs hW => ?_)
    refine lv_if_eq (tgt := 40) hx hb dX1_isZero_35 (by decide) (fun c6 => ?_) (fun c6 => ?_)
    · replace hf := (if_pos c6).symm.trans hf
      refine lv_iinc (v := (x3 + (1 : Int32))) (lv' := [(3, .int (x3 + (1 : Int32))), (0, .ref (ka K 1)), (2, .int x2)]) hx hb dX1_isZero_40 hl (k := 2) rfl rfl (by decide) rfl (fun ls hl => ?_)
      refine lv_goto (tgt := 25) hx hb dX1_isZero_43 (by decide) ?_
      exact hk25 _ _ hf _ _ _ (lv_sub hl [1, 2, 0] rfl) hW
    · replace hf := (if_neg c6).symm.trans hf
      refine lv_iconst (v := (0 : Int32)) hx hb dX1_isZero_38 (by decide) ?_
      exact gw_retz F hW hf (Or.inl rfl) dX1_isZero_39
set_option maxHeartbeats 4000000 in
set_option maxRecDepth 100000 in
theorem wXX1_isZero_1_2 {p : Program} {l : Launch} {e : Env} {s : State} {m : MethodId} {args : Array Value} {below : List Frame} {meth : Method} {c : Code} {A : Nat → Prop} {K : KX} (F : fx_ p s m args meth c cX1_isZero 4 (some .boolean) RX1 wsX1_isZero) {k2 : (Int32 × Int32 × XS) → Option (Int32 × XS)} (hk2 : ∀ t o, k2 t = some o → PXX1_isZero_1_2 p l e s m args below meth c A K t o) (x2 : Int32) (x3 : Int32) (σ : XS) (o : (Int32 × XS)) (hf : fXX1_isZero_1_2 (kn K) k2 x2 x3 σ = some o) (H : Heap) (locs : List Loc) (ls : Array Slot) (hl : lv_has ls 4 [(0, .ref (ka K 1)), (2, .int x2), (3, .int x3)]) (hW : gw_ (kD K) vwCl (tyX K) (wX K) A s σ H locs) : W p l e rXX1_isZero_1 s m args below meth c H locs 0 0 (MQ below (va_Qi (fun r u => (r = o.1 ∧ u = o.2) ∧ (o.1 = 0 ∨ o.1 = 1)) (gw_B (kD K) vwCl (tyX K) (wX K) A) A) args s rXX1_isZero_1.cells rXX1_isZero_1.slots A) (F0 m 2 ls []) := by
  have hx := F.1
  have hb := F.2.1
  have hml := F.2.2.2.1
  have hown := F.2.2.2.2.1
  have hts := F.2.2.2.2.2.1
  have hG : ∀ x ∈ gT, x.before args s = true := fun x h => hts x (List.mem_cons_of_mem _ h)
  unfold fXX1_isZero_1_2 at hf
  refine lv_iload_n hx hb dX1_isZero_2 rfl (lv_at hl 2 rfl) ?_
  refine lv_iload_n hx hb dX1_isZero_3 rfl (lv_at hl 1 rfl) ?_
  refine lv_iconst (v := (4 : Int32)) hx hb dX1_isZero_4 (by decide) ?_
  refine lv_isub hx hb dX1_isZero_5 ?_
  refine lv_icmp_gt (tgt := 25) hx hb dX1_isZero_6 (by decide) (fun c1 => ?_) (fun c1 => ?_)
  · replace hf := (if_pos c1).symm.trans hf
    exact lfix_ind (P := PXX1_isZero_1_25 p l e s m args below meth c A K) (fun k25 hk25 t o hf => wXX1_isZero_1_25 F hk25 t.1 t.2.1 t.2.2 o hf) FU _ _ hf _ _ _ (lv_sub hl [0, 1, 2] rfl) hW
  · replace hf := (if_neg c1).symm.trans hf
    refine lv_aload_n hx hb dX1_isZero_9 rfl (lv_at hl 0 rfl) ?_
    refine lv_iload_n hx hb dX1_isZero_10 rfl (lv_at hl 2 rfl) ?_
    obtain ⟨o7, h8, hf⟩ := gw_bind hf
    refine gw_Vi (As := [.int x3]) (mc' := 0) (ms' := 0) F hW (mXX1_get4_1 h8) (cwV 1 hts (gT_V q_2_126 q_2_114 q_2_115 q_1_3 q_2_116) rfl rfl rfl hdX1_get4 ⟨Nat.le_of_ble_eq_true rfl, Nat.le_of_ble_eq_true rfl⟩) 1 1 (aX_1 K σ) rfl rfl hl.1 rfl (Nat.le_of_ble_eq_true rfl) dX1_isZero_11 ⟨Nat.le_of_ble_eq_true rfl, Nat.le_of_ble_eq_true rfl⟩ rfl rfl (fun H locs hW => ?_)
    refine lv_if_eq (tgt := 19) hx hb dX1_isZero_14 (by decide) (fun c10 => ?_) (fun c10 => ?_)
    · replace hf := (if_pos c10).symm.trans hf
      refine lv_iinc (v := (x3 + (4 : Int32))) (lv' := [(3, .int (x3 + (4 : Int32))), (0, .ref (ka K 1)), (2, .int x2)]) hx hb dX1_isZero_19 hl (k := 2) rfl rfl (by decide) rfl (fun ls hl => ?_)
      refine lv_goto (tgt := 2) hx hb dX1_isZero_22 (by decide) ?_
      exact hk2 _ _ hf _ _ _ (lv_sub hl [1, 2, 0] rfl) hW
    · replace hf := (if_neg c10).symm.trans hf
      refine lv_iconst (v := (0 : Int32)) hx hb dX1_isZero_17 (by decide) ?_
      exact gw_retz F hW hf (Or.inl rfl) dX1_isZero_18
set_option maxHeartbeats 4000000 in
set_option maxRecDepth 100000 in
theorem wXX1_isZero_1_0 {p : Program} {l : Launch} {e : Env} {s : State} {m : MethodId} {args : Array Value} {below : List Frame} {meth : Method} {c : Code} {A : Nat → Prop} {K : KX} (F : fx_ p s m args meth c cX1_isZero 4 (some .boolean) RX1 wsX1_isZero) (x1 : Int32) (x2 : Int32) (σ : XS) (o : (Int32 × XS)) (hf : fXX1_isZero_1_0 (kn K) x1 x2 σ = some o) (H : Heap) (locs : List Loc) (ls : Array Slot) (hl : lv_has ls 4 [(0, .ref (ka K 1)), (1, .int x1), (2, .int x2)]) (hW : gw_ (kD K) vwCl (tyX K) (wX K) A s σ H locs) : W p l e rXX1_isZero_1 s m args below meth c H locs 0 0 (MQ below (va_Qi (fun r u => (r = o.1 ∧ u = o.2) ∧ (o.1 = 0 ∨ o.1 = 1)) (gw_B (kD K) vwCl (tyX K) (wX K) A) A) args s rXX1_isZero_1.cells rXX1_isZero_1.slots A) (F0 m 0 ls []) := by
  have hx := F.1
  have hb := F.2.1
  have hml := F.2.2.2.1
  have hown := F.2.2.2.2.1
  have hts := F.2.2.2.2.2.1
  have hG : ∀ x ∈ gT, x.before args s = true := fun x h => hts x (List.mem_cons_of_mem _ h)
  unfold fXX1_isZero_1_0 at hf
  refine lv_iload_n hx hb dX1_isZero_0 rfl (lv_at hl 1 rfl) ?_
  refine lv_istore_n (lv' := [(3, .int x1), (0, .ref (ka K 1)), (1, .int x1), (2, .int x2)]) hx hb dX1_isZero_1 rfl hl (by decide) rfl (fun ls hl => ?_)
  exact lfix_ind (P := PXX1_isZero_1_2 p l e s m args below meth c A K) (fun k2 hk2 t o hf => wXX1_isZero_1_2 F hk2 t.1 t.2.1 t.2.2 o hf) FU _ _ hf _ _ _ (lv_sub hl [1, 3, 0] rfl) hW
set_option maxHeartbeats 4000000 in
set_option maxRecDepth 100000 in
theorem mXX1_isZero_1 {l : Launch} {K : KX} {σ : XS} {x1 : Int32} {x2 : Int32} {o : (Int32 × XS)} (hf : fXX1_isZero_1 (kn K) x1 x2 σ = some o) : gw_Mz l (kD K) vwCl (tyX K) (wX K) yX1_isZero wsX1_isZero rXX1_isZero_1 [.ref (ka K 1), .int x1, .int x2] σ o := by
  intro sz
  refine gw_body (cc := cX1_isZero) (maxL := 4) (yret := some .boolean) (by decide +kernel) rfl ?_ (Nat.le_of_ble_eq_true rfl)
  intro p e s m below meth c F hsz hW ls hl
  exact wXX1_isZero_1_0 F x1 x2 σ o hf s.heap [] ls hl hW
abbrev rXX4_withIndirect : Room := { frames := 0, cells := 0, slots := 0, locals := 0 }
set_option maxHeartbeats 4000000 in
set_option maxRecDepth 100000 in
theorem wXX4_withIndirect_0 {p : Program} {l : Launch} {e : Env} {s : State} {m : MethodId} {args : Array Value} {below : List Frame} {meth : Method} {c : Code} {A : Nat → Prop} {K : KX} (F : fx_ p s m args meth c cX4_withIndirect 1 (some .int) RX4 wsX4_withIndirect) (x0 : Int32) (σ : XS) (o : (Int32 × XS)) (hf : fXX4_withIndirect_0 (kn K) x0 σ = some o) (H : Heap) (locs : List Loc) (ls : Array Slot) (hl : lv_has ls 1 [(0, .int x0)]) (hW : gw_ (kD K) vwCl (tyX K) (wX K) A s σ H locs) : W p l e rXX4_withIndirect s m args below meth c H locs 0 0 (MQ below (gw_Qi (kD K) vwCl (tyX K) (wX K) A o) args s rXX4_withIndirect.cells rXX4_withIndirect.slots A) (F0 m 0 ls []) := by
  have hx := F.1
  have hb := F.2.1
  have hml := F.2.2.2.1
  have hown := F.2.2.2.2.1
  have hts := F.2.2.2.2.2.1
  have hG : ∀ x ∈ gT, x.before args s = true := fun x h => hts x (List.mem_cons_of_mem _ h)
  unfold fXX4_withIndirect_0 at hf
  refine lv_iload_n hx hb dX4_withIndirect_0 rfl (lv_at hl 0 rfl) ?_
  refine lv_bipush (v := (12 : Int32)) hx hb dX4_withIndirect_1 (by decide) ?_
  refine lv_icmp_gt (tgt := 8) hx hb dX4_withIndirect_3 (by decide) (fun c1 => ?_) (fun c1 => ?_)
  · replace hf := (if_pos c1).symm.trans hf
    refine lv_iload_n hx hb dX4_withIndirect_8 rfl (lv_at hl 0 rfl) ?_
    refine lv_sipush (v := (268 : Int32)) hx hb dX4_withIndirect_9 (by decide) ?_
    refine lv_icmp_gt (tgt := 19) hx hb dX4_withIndirect_12 (by decide) (fun c2 => ?_) (fun c2 => ?_)
    · replace hf := (if_pos c2).symm.trans hf
      refine lv_iload_n hx hb dX4_withIndirect_19 rfl (lv_at hl 0 rfl) ?_
      refine lv_iconst (v := (2 : Int32)) hx hb dX4_withIndirect_20 (by decide) ?_
      refine lv_iadd hx hb dX4_withIndirect_21 ?_
      refine lv_iload_n hx hb dX4_withIndirect_22 rfl (lv_at hl 0 rfl) ?_
      refine lv_sipush (v := (268 : Int32)) hx hb dX4_withIndirect_23 (by decide) ?_
      refine lv_isub hx hb dX4_withIndirect_26 ?_
      refine lv_sipush (v := (256 : Int32)) hx hb dX4_withIndirect_27 (by decide) ?_
      refine lv_iadd hx hb dX4_withIndirect_30 ?_
      refine lv_iconst (v := (1 : Int32)) hx hb dX4_withIndirect_31 (by decide) ?_
      refine lv_isub hx hb dX4_withIndirect_32 ?_
      refine lv_sipush (v := (256 : Int32)) hx hb dX4_withIndirect_33 (by decide) ?_
      refine lv_idiv hx hb dX4_withIndirect_36 (by decide) ?_
      refine lv_iadd hx hb dX4_withIndirect_37 ?_
      exact gw_reti F hW hf dX4_withIndirect_38
    · replace hf := (if_neg c2).symm.trans hf
      refine lv_iload_n hx hb dX4_withIndirect_15 rfl (lv_at hl 0 rfl) ?_
      refine lv_iconst (v := (1 : Int32)) hx hb dX4_withIndirect_16 (by decide) ?_
      refine lv_iadd hx hb dX4_withIndirect_17 ?_
      exact gw_reti F hW hf dX4_withIndirect_18
  · replace hf := (if_neg c1).symm.trans hf
    refine lv_iload_n hx hb dX4_withIndirect_6 rfl (lv_at hl 0 rfl) ?_
    exact gw_reti F hW hf dX4_withIndirect_7
set_option maxHeartbeats 4000000 in
set_option maxRecDepth 100000 in
theorem mXX4_withIndirect {l : Launch} {K : KX} {σ : XS} {x0 : Int32} {o : (Int32 × XS)} (hf : fXX4_withIndirect (kn K) x0 σ = some o) : gw_Mi l (kD K) vwCl (tyX K) (wX K) yX4_withIndirect wsX4_withIndirect rXX4_withIndirect [.int x0] σ o := by
  intro sz
  refine gw_body (cc := cX4_withIndirect) (maxL := 1) (yret := some .int) (by decide +kernel) rfl ?_ (Nat.le_of_ble_eq_true rfl)
  intro p e s m below meth c F hsz hW ls hl
  exact wXX4_withIndirect_0 F x0 σ o hf s.heap [] ls hl hW
abbrev rXX7_rowHolds_10 : Room := { frames := 1, cells := 0, slots := 0, locals := 21 }
def PXX7_rowHolds_10_3 (p : Program) (l : Launch) (e : Env) (s : State) (m : MethodId) (args : Array Value) (below : List Frame) (meth : Method) (c : Code) (A : Nat → Prop) (K : KX) (t : (Int32 × Int32 × Int32 × Int32 × XS)) (o : (Int32 × XS)) : Prop := ∀ (H : Heap) (locs : List Loc) (ls : Array Slot), lv_has ls 6 [(0, .ref (ka K 10)), (1, .int t.1), (2, .int t.2.1), (3, .int t.2.2.1), (4, .int t.2.2.2.1)] → gw_ (kD K) vwCl (tyX K) (wX K) A s t.2.2.2.2 H locs → W p l e rXX7_rowHolds_10 s m args below meth c H locs 0 0 (MQ below (va_Qi (fun r u => (r = o.1 ∧ u = o.2) ∧ (o.1 = 0 ∨ o.1 = 1)) (gw_B (kD K) vwCl (tyX K) (wX K) A) A) args s rXX7_rowHolds_10.cells rXX7_rowHolds_10.slots A) (F0 m 3 ls [])
set_option maxHeartbeats 4000000 in
set_option maxRecDepth 100000 in
theorem wXX7_rowHolds_10_49 {p : Program} {l : Launch} {e : Env} {s : State} {m : MethodId} {args : Array Value} {below : List Frame} {meth : Method} {c : Code} {A : Nat → Prop} {K : KX} (F : fx_ p s m args meth c cX7_rowHolds 6 (some .boolean) RX7 wsX7_rowHolds) {k3 : (Int32 × Int32 × Int32 × Int32 × XS) → Option (Int32 × XS)} (hk3 : ∀ t o, k3 t = some o → PXX7_rowHolds_10_3 p l e s m args below meth c A K t o) (x1 : Int32) (x2 : Int32) (x3 : Int32) (x4 : Int32) (σ : XS) (o : (Int32 × XS)) (hf : fXX7_rowHolds_10_49 (kn K) k3 x1 x2 x3 x4 σ = some o) (H : Heap) (locs : List Loc) (ls : Array Slot) (hl : lv_has ls 6 [(0, .ref (ka K 10)), (1, .int x1), (2, .int x2), (3, .int x3), (4, .int x4)]) (hW : gw_ (kD K) vwCl (tyX K) (wX K) A s σ H locs) : W p l e rXX7_rowHolds_10 s m args below meth c H locs 0 0 (MQ below (va_Qi (fun r u => (r = o.1 ∧ u = o.2) ∧ (o.1 = 0 ∨ o.1 = 1)) (gw_B (kD K) vwCl (tyX K) (wX K) A) A) args s rXX7_rowHolds_10.cells rXX7_rowHolds_10.slots A) (F0 m 49 ls []) := by
  have hx := F.1
  have hb := F.2.1
  have hml := F.2.2.2.1
  have hown := F.2.2.2.2.1
  have hts := F.2.2.2.2.2.1
  have hG : ∀ x ∈ gT, x.before args s = true := fun x h => hts x (List.mem_cons_of_mem _ h)
  unfold fXX7_rowHolds_10_49 at hf
  refine lv_iinc (v := (x4 + (1 : Int32))) (lv' := [(4, .int (x4 + (1 : Int32))), (0, .ref (ka K 10)), (1, .int x1), (2, .int x2), (3, .int x3)]) hx hb dX7_rowHolds_49 hl (k := 4) rfl rfl (by decide) rfl (fun ls hl => ?_)
  refine lv_goto (tgt := 3) hx hb dX7_rowHolds_52 (by decide) ?_
  exact hk3 _ _ hf _ _ _ (lv_sub hl [1, 2, 3, 4, 0] rfl) hW
set_option maxHeartbeats 4000000 in
set_option maxRecDepth 100000 in
theorem wXX7_rowHolds_10_3 {p : Program} {l : Launch} {e : Env} {s : State} {m : MethodId} {args : Array Value} {below : List Frame} {meth : Method} {c : Code} {A : Nat → Prop} {K : KX} (F : fx_ p s m args meth c cX7_rowHolds 6 (some .boolean) RX7 wsX7_rowHolds) {k3 : (Int32 × Int32 × Int32 × Int32 × XS) → Option (Int32 × XS)} (hk3 : ∀ t o, k3 t = some o → PXX7_rowHolds_10_3 p l e s m args below meth c A K t o) (x1 : Int32) (x2 : Int32) (x3 : Int32) (x4 : Int32) (σ : XS) (o : (Int32 × XS)) (hf : fXX7_rowHolds_10_3 (kn K) k3 x1 x2 x3 x4 σ = some o) (H : Heap) (locs : List Loc) (ls : Array Slot) (hl : lv_has ls 6 [(0, .ref (ka K 10)), (1, .int x1), (2, .int x2), (3, .int x3), (4, .int x4)]) (hW : gw_ (kD K) vwCl (tyX K) (wX K) A s σ H locs) : W p l e rXX7_rowHolds_10 s m args below meth c H locs 0 0 (MQ below (va_Qi (fun r u => (r = o.1 ∧ u = o.2) ∧ (o.1 = 0 ∨ o.1 = 1)) (gw_B (kD K) vwCl (tyX K) (wX K) A) A) args s rXX7_rowHolds_10.cells rXX7_rowHolds_10.slots A) (F0 m 3 ls []) := by
  have hx := F.1
  have hb := F.2.1
  have hml := F.2.2.2.1
  have hown := F.2.2.2.2.1
  have hts := F.2.2.2.2.2.1
  have hG : ∀ x ∈ gT, x.before args s = true := fun x h => hts x (List.mem_cons_of_mem _ h)
  unfold fXX7_rowHolds_10_3 at hf
  refine lv_iload hx hb dX7_rowHolds_3 (lv_at hl 4 rfl) ?_
  refine lv_iload_n hx hb dX7_rowHolds_5 rfl (lv_at hl 2 rfl) ?_
  refine lv_icmp_ge (tgt := 55) hx hb dX7_rowHolds_6 (by decide) (fun c1 => ?_) (fun c1 => ?_)
  · replace hf := (if_pos c1).symm.trans hf
    refine lv_iconst (v := (1 : Int32)) hx hb dX7_rowHolds_55 (by decide) ?_
    exact gw_retz F hW hf (Or.inr rfl) dX7_rowHolds_56
  · replace hf := (if_neg c1).symm.trans hf
    refine lv_aload_n hx hb dX7_rowHolds_9 rfl (lv_at hl 0 rfl) ?_
    refine gw_get (v := .ref (ka K 1)) F inc_X7 hW 10 7 0 (aX_10 K σ) rfl (by decide) (hG _ q_1_170) (fun _ h9 => h9) rfl dX7_rowHolds_10 ?_
    refine lv_iload_n hx hb dX7_rowHolds_13 rfl (lv_at hl 1 rfl) ?_
    refine lv_iconst (v := (4 : Int32)) hx hb dX7_rowHolds_14 (by decide) ?_
    refine lv_iload hx hb dX7_rowHolds_15 (lv_at hl 4 rfl) ?_
    refine lv_imul hx hb dX7_rowHolds_17 ?_
    refine lv_iadd hx hb dX7_rowHolds_18 ?_
    obtain ⟨o2, h3, hf⟩ := gw_bind hf
    refine gw_Vi (As := [.int (x1 + ((4 : Int32) * x4))]) (mc' := 0) (ms' := 0) F hW (mXX1_get4_1 h3) (cwV 1 hts (gT_V q_2_113 q_2_114 q_2_115 q_1_3 q_2_116) rfl rfl rfl hdX1_get4 ⟨Nat.le_of_ble_eq_true rfl, Nat.le_of_ble_eq_true rfl⟩) 1 1 (aX_1 K σ) rfl rfl hl.1 rfl (Nat.le_of_ble_eq_true rfl) dX7_rowHolds_19 ⟨Nat.le_of_ble_eq_true rfl, Nat.le_of_ble_eq_true rfl⟩ rfl rfl (fun H locs hW => ?_)
    refine lv_istore (lv' := [(5, .int o2.1), (0, .ref (ka K 10)), (1, .int x1), (2, .int x2), (3, .int x3), (4, .int x4)]) hx hb dX7_rowHolds_22 hl (by decide) rfl (fun ls hl => ?_)
    refine lv_iload hx hb dX7_rowHolds_24 (lv_at hl 5 rfl) ?_
    refine lv_iload_n hx hb dX7_rowHolds_26 rfl (lv_at hl 4 rfl) ?_
    refine lv_icmp_ge (tgt := 42) hx hb dX7_rowHolds_27 (by decide) (fun c5 => ?_) (fun c5 => ?_)
    · replace hf := (if_pos c5).symm.trans hf
      refine lv_iload hx hb dX7_rowHolds_42 (lv_at hl 0 rfl) ?_
      refine lv_if_eq (tgt := 49) hx hb dX7_rowHolds_44 (by decide) (fun c6 => ?_) (fun c6 => ?_)
      · replace hf := (if_pos c6).symm.trans hf
        exact wXX7_rowHolds_10_49 F hk3 x1 x2 x3 x4 _ _ hf _ _ _ (lv_sub hl [1, 2, 3, 4, 5] rfl) hW
      · replace hf := (if_neg c6).symm.trans hf
        refine lv_iconst (v := (0 : Int32)) hx hb dX7_rowHolds_47 (by decide) ?_
        exact gw_retz F hW hf (Or.inl rfl) dX7_rowHolds_48
    · replace hf := (if_neg c5).symm.trans hf
      refine lv_aload_n hx hb dX7_rowHolds_30 rfl (lv_at hl 1 rfl) ?_
      refine lv_iload hx hb dX7_rowHolds_31 (lv_at hl 0 rfl) ?_
      obtain ⟨o7, h8, hf⟩ := gw_bind hf
      refine gw_Vz (As := [.int o2.1]) (mc' := 0) (ms' := 0) F hW (mXX7_claim_10 h8) (cwV 1 hts (gT_V q_2_85 q_2_87 qp_1 q_1_9 q_2_88) rfl rfl rfl hdX7_claim ⟨Nat.le_of_ble_eq_true rfl, Nat.le_of_ble_eq_true rfl⟩) 10 7 (aX_10 K o2.2) rfl rfl hl.1 rfl (Nat.le_of_ble_eq_true rfl) dX7_rowHolds_33 ⟨Nat.le_of_ble_eq_true rfl, Nat.le_of_ble_eq_true rfl⟩ rfl rfl (fun H locs z9 hW => ?_)
      refine lv_if_ne (tgt := 49) hx hb dX7_rowHolds_36 (by decide) (fun c10 => ?_) (fun c10 => ?_)
      · replace hf := (if_neg c10).symm.trans hf
        exact wXX7_rowHolds_10_49 F hk3 x1 x2 x3 x4 _ _ hf _ _ _ (lv_sub hl [1, 2, 3, 4, 5] rfl) hW
      · replace hf := (if_pos c10).symm.trans hf
        refine lv_goto (tgt := 47) hx hb dX7_rowHolds_39 (by decide) ?_
        refine lv_iconst (v := (0 : Int32)) hx hb dX7_rowHolds_47 (by decide) ?_
        exact gw_retz F hW hf (Or.inl rfl) dX7_rowHolds_48
set_option maxHeartbeats 4000000 in
set_option maxRecDepth 100000 in
theorem wXX7_rowHolds_10_0 {p : Program} {l : Launch} {e : Env} {s : State} {m : MethodId} {args : Array Value} {below : List Frame} {meth : Method} {c : Code} {A : Nat → Prop} {K : KX} (F : fx_ p s m args meth c cX7_rowHolds 6 (some .boolean) RX7 wsX7_rowHolds) (x1 : Int32) (x2 : Int32) (x3 : Int32) (σ : XS) (o : (Int32 × XS)) (hf : fXX7_rowHolds_10_0 (kn K) x1 x2 x3 σ = some o) (H : Heap) (locs : List Loc) (ls : Array Slot) (hl : lv_has ls 6 [(0, .ref (ka K 10)), (1, .int x1), (2, .int x2), (3, .int x3)]) (hW : gw_ (kD K) vwCl (tyX K) (wX K) A s σ H locs) : W p l e rXX7_rowHolds_10 s m args below meth c H locs 0 0 (MQ below (va_Qi (fun r u => (r = o.1 ∧ u = o.2) ∧ (o.1 = 0 ∨ o.1 = 1)) (gw_B (kD K) vwCl (tyX K) (wX K) A) A) args s rXX7_rowHolds_10.cells rXX7_rowHolds_10.slots A) (F0 m 0 ls []) := by
  have hx := F.1
  have hb := F.2.1
  have hml := F.2.2.2.1
  have hown := F.2.2.2.2.1
  have hts := F.2.2.2.2.2.1
  have hG : ∀ x ∈ gT, x.before args s = true := fun x h => hts x (List.mem_cons_of_mem _ h)
  unfold fXX7_rowHolds_10_0 at hf
  refine lv_iconst (v := (0 : Int32)) hx hb dX7_rowHolds_0 (by decide) ?_
  refine lv_istore (lv' := [(4, .int (0 : Int32)), (0, .ref (ka K 10)), (1, .int x1), (2, .int x2), (3, .int x3)]) hx hb dX7_rowHolds_1 hl (by decide) rfl (fun ls hl => ?_)
  exact lfix_ind (P := PXX7_rowHolds_10_3 p l e s m args below meth c A K) (fun k3 hk3 t o hf => wXX7_rowHolds_10_3 F hk3 t.1 t.2.1 t.2.2.1 t.2.2.2.1 t.2.2.2.2 o hf) FU _ _ hf _ _ _ (lv_sub hl [1, 2, 3, 4, 0] rfl) hW
set_option maxHeartbeats 4000000 in
set_option maxRecDepth 100000 in
theorem mXX7_rowHolds_10 {l : Launch} {K : KX} {σ : XS} {x1 : Int32} {x2 : Int32} {x3 : Int32} {o : (Int32 × XS)} (hf : fXX7_rowHolds_10 (kn K) x1 x2 x3 σ = some o) : gw_Mz l (kD K) vwCl (tyX K) (wX K) yX7_rowHolds wsX7_rowHolds rXX7_rowHolds_10 [.ref (ka K 10), .int x1, .int x2, .int x3] σ o := by
  intro sz
  refine gw_body (cc := cX7_rowHolds) (maxL := 6) (yret := some .boolean) (by decide +kernel) rfl ?_ (Nat.le_of_ble_eq_true rfl)
  intro p e s m below meth c F hsz hW ls hl
  exact wXX7_rowHolds_10_0 F x1 x2 x3 σ o hf s.heap [] ls hl hW
abbrev rXX7_pointersHold_10 : Room := { frames := 2, cells := 0, slots := 0, locals := 46 }
def PXX7_pointersHold_10_150 (p : Program) (l : Launch) (e : Env) (s : State) (m : MethodId) (args : Array Value) (below : List Frame) (meth : Method) (c : Code) (A : Nat → Prop) (K : KX) (t : (Int32 × Int32 × Int32 × Int32 × XS)) (o : (Int32 × XS)) : Prop := ∀ (H : Heap) (locs : List Loc) (ls : Array Slot), lv_has ls 8 [(0, .ref (ka K 10)), (4, .int t.1), (5, .int t.2.1), (6, .int t.2.2.1), (7, .int t.2.2.2.1)] → gw_ (kD K) vwCl (tyX K) (wX K) A s t.2.2.2.2 H locs → W p l e rXX7_pointersHold_10 s m args below meth c H locs 0 0 (MQ below (va_Qi (fun r u => (r = o.1 ∧ u = o.2) ∧ (o.1 = 0 ∨ o.1 = 1)) (gw_B (kD K) vwCl (tyX K) (wX K) A) A) args s rXX7_pointersHold_10.cells rXX7_pointersHold_10.slots A) (F0 m 150 ls [])
set_option maxHeartbeats 4000000 in
set_option maxRecDepth 100000 in
theorem wXX7_pointersHold_10_150 {p : Program} {l : Launch} {e : Env} {s : State} {m : MethodId} {args : Array Value} {below : List Frame} {meth : Method} {c : Code} {A : Nat → Prop} {K : KX} (F : fx_ p s m args meth c cX7_pointersHold 8 (some .boolean) RX7 wsX7_pointersHold) {k150 : (Int32 × Int32 × Int32 × Int32 × XS) → Option (Int32 × XS)} (hk150 : ∀ t o, k150 t = some o → PXX7_pointersHold_10_150 p l e s m args below meth c A K t o) (x4 : Int32) (x5 : Int32) (x6 : Int32) (x7 : Int32) (σ : XS) (o : (Int32 × XS)) (hf : fXX7_pointersHold_10_150 (kn K) k150 x4 x5 x6 x7 σ = some o) (H : Heap) (locs : List Loc) (ls : Array Slot) (hl : lv_has ls 8 [(0, .ref (ka K 10)), (4, .int x4), (5, .int x5), (6, .int x6), (7, .int x7)]) (hW : gw_ (kD K) vwCl (tyX K) (wX K) A s σ H locs) : W p l e rXX7_pointersHold_10 s m args below meth c H locs 0 0 (MQ below (va_Qi (fun r u => (r = o.1 ∧ u = o.2) ∧ (o.1 = 0 ∨ o.1 = 1)) (gw_B (kD K) vwCl (tyX K) (wX K) A) A) args s rXX7_pointersHold_10.cells rXX7_pointersHold_10.slots A) (F0 m 150 ls []) := by
  have hx := F.1
  have hb := F.2.1
  have hml := F.2.2.2.1
  have hown := F.2.2.2.2.1
  have hts := F.2.2.2.2.2.1
  have hG : ∀ x ∈ gT, x.before args s = true := fun x h => hts x (List.mem_cons_of_mem _ h)
  unfold fXX7_pointersHold_10_150 at hf
  refine lv_iload hx hb dX7_pointersHold_150 (lv_at hl 4 rfl) ?_
  refine lv_iload hx hb dX7_pointersHold_152 (lv_at hl 3 rfl) ?_
  refine lv_icmp_ge (tgt := 202) hx hb dX7_pointersHold_154 (by decide) (fun c18 => ?_) (fun c18 => ?_)
  · replace hf := (if_pos c18).symm.trans hf
    refine lv_iconst (v := (1 : Int32)) hx hb dX7_pointersHold_202 (by decide) ?_
    exact gw_retz F hW hf (Or.inr rfl) dX7_pointersHold_203
  · replace hf := (if_neg c18).symm.trans hf
    refine lv_aload_n hx hb dX7_pointersHold_157 rfl (lv_at hl 0 rfl) ?_
    refine lv_aload_n hx hb dX7_pointersHold_158 rfl (lv_at hl 0 rfl) ?_
    refine gw_get (v := .ref (ka K 1)) F inc_X7 hW 10 7 0 (aX_10 K σ) rfl (by decide) (hG _ q_1_170) (fun _ h9 => h9) rfl dX7_pointersHold_159 ?_
    refine lv_iload hx hb dX7_pointersHold_162 (lv_at hl 2 rfl) ?_
    refine lv_iconst (v := (4 : Int32)) hx hb dX7_pointersHold_164 (by decide) ?_
    refine lv_iload hx hb dX7_pointersHold_165 (lv_at hl 4 rfl) ?_
    refine lv_imul hx hb dX7_pointersHold_167 ?_
    refine lv_iadd hx hb dX7_pointersHold_168 ?_
    obtain ⟨o19, h20, hf⟩ := gw_bind hf
    refine gw_Vi (As := [.int (x5 + ((4 : Int32) * x7))]) (mc' := 0) (ms' := 0) F hW (mXX1_get4_1 h20) (cwV 1 hts (gT_V q_2_113 q_2_114 q_2_115 q_1_3 q_2_116) rfl rfl rfl hdX1_get4 ⟨Nat.le_of_ble_eq_true rfl, Nat.le_of_ble_eq_true rfl⟩) 1 1 (aX_1 K σ) rfl rfl hl.1 rfl (Nat.le_of_ble_eq_true rfl) dX7_pointersHold_169 ⟨Nat.le_of_ble_eq_true rfl, Nat.le_of_ble_eq_true rfl⟩ rfl rfl (fun H locs hW => ?_)
    refine lv_sipush (v := (1024 : Int32)) hx hb dX7_pointersHold_172 (by decide) ?_
    refine lv_imul hx hb dX7_pointersHold_175 ?_
    refine lv_sipush (v := (256 : Int32)) hx hb dX7_pointersHold_176 (by decide) ?_
    refine lv_iload hx hb dX7_pointersHold_179 (lv_at hl 1 rfl) ?_
    refine lv_sipush (v := (256 : Int32)) hx hb dX7_pointersHold_181 (by decide) ?_
    refine lv_iload hx hb dX7_pointersHold_184 (lv_at hl 4 rfl) ?_
    refine lv_imul hx hb dX7_pointersHold_186 ?_
    refine lv_isub hx hb dX7_pointersHold_187 ?_
    obtain ⟨o22, h23, hf⟩ := gw_bind hf
    refine gw_Vz (As := [.int (o19.1 * (1024 : Int32)), .int (256 : Int32), .int (x4 - ((256 : Int32) * x7))]) (mc' := 0) (ms' := 0) F hW (mXX7_rowHolds_10 h23) (cwV 3 hts (gT_V q_2_135 q_2_137 qp_5 q_1_9 q_2_138) rfl rfl rfl hdX7_rowHolds ⟨Nat.le_of_ble_eq_true rfl, Nat.le_of_ble_eq_true rfl⟩) 10 7 (aX_10 K o19.2) rfl rfl hl.1 rfl (Nat.le_of_ble_eq_true rfl) dX7_pointersHold_188 ⟨Nat.le_of_ble_eq_true rfl, Nat.le_of_ble_eq_true rfl⟩ rfl rfl (fun H locs z24 hW => ?_)
    refine lv_if_ne (tgt := 196) hx hb dX7_pointersHold_191 (by decide) (fun c25 => ?_) (fun c25 => ?_)
    · replace hf := (if_neg c25).symm.trans hf
      refine lv_iinc (v := (x7 + (1 : Int32))) (lv' := [(7, .int (x7 + (1 : Int32))), (0, .ref (ka K 10)), (4, .int x4), (5, .int x5), (6, .int x6)]) hx hb dX7_pointersHold_196 hl (k := 4) rfl rfl (by decide) rfl (fun ls hl => ?_)
      refine lv_goto (tgt := 150) hx hb dX7_pointersHold_199 (by decide) ?_
      exact hk150 _ _ hf _ _ _ (lv_sub hl [1, 2, 3, 4, 0] rfl) hW
    · replace hf := (if_pos c25).symm.trans hf
      refine lv_iconst (v := (0 : Int32)) hx hb dX7_pointersHold_194 (by decide) ?_
      exact gw_retz F hW hf (Or.inl rfl) dX7_pointersHold_195
set_option maxHeartbeats 4000000 in
set_option maxRecDepth 100000 in
theorem wXX7_pointersHold_10_147 {p : Program} {l : Launch} {e : Env} {s : State} {m : MethodId} {args : Array Value} {below : List Frame} {meth : Method} {c : Code} {A : Nat → Prop} {K : KX} (F : fx_ p s m args meth c cX7_pointersHold 8 (some .boolean) RX7 wsX7_pointersHold) (x4 : Int32) (x5 : Int32) (x6 : Int32) (σ : XS) (o : (Int32 × XS)) (hf : fXX7_pointersHold_10_147 (kn K) x4 x5 x6 σ = some o) (H : Heap) (locs : List Loc) (ls : Array Slot) (hl : lv_has ls 8 [(0, .ref (ka K 10)), (4, .int x4), (5, .int x5), (6, .int x6)]) (hW : gw_ (kD K) vwCl (tyX K) (wX K) A s σ H locs) : W p l e rXX7_pointersHold_10 s m args below meth c H locs 0 0 (MQ below (va_Qi (fun r u => (r = o.1 ∧ u = o.2) ∧ (o.1 = 0 ∨ o.1 = 1)) (gw_B (kD K) vwCl (tyX K) (wX K) A) A) args s rXX7_pointersHold_10.cells rXX7_pointersHold_10.slots A) (F0 m 147 ls []) := by
  have hx := F.1
  have hb := F.2.1
  have hml := F.2.2.2.1
  have hown := F.2.2.2.2.1
  have hts := F.2.2.2.2.2.1
  have hG : ∀ x ∈ gT, x.before args s = true := fun x h => hts x (List.mem_cons_of_mem _ h)
  unfold fXX7_pointersHold_10_147 at hf
  refine lv_iconst (v := (0 : Int32)) hx hb dX7_pointersHold_147 (by decide) ?_
  refine lv_istore (lv' := [(7, .int (0 : Int32)), (0, .ref (ka K 10)), (4, .int x4), (5, .int x5), (6, .int x6)]) hx hb dX7_pointersHold_148 hl (by decide) rfl (fun ls hl => ?_)
  exact lfix_ind (P := PXX7_pointersHold_10_150 p l e s m args below meth c A K) (fun k150 hk150 t o hf => wXX7_pointersHold_10_150 F hk150 t.1 t.2.1 t.2.2.1 t.2.2.2.1 t.2.2.2.2 o hf) FU _ _ hf _ _ _ (lv_sub hl [1, 2, 3, 4, 0] rfl) hW
set_option maxHeartbeats 4000000 in
set_option maxRecDepth 100000 in
theorem wXX7_pointersHold_10_95 {p : Program} {l : Launch} {e : Env} {s : State} {m : MethodId} {args : Array Value} {below : List Frame} {meth : Method} {c : Code} {A : Nat → Prop} {K : KX} (F : fx_ p s m args meth c cX7_pointersHold 8 (some .boolean) RX7 wsX7_pointersHold) (x1 : Int32) (x4 : Int32) (σ : XS) (o : (Int32 × XS)) (hf : fXX7_pointersHold_10_95 (kn K) x1 x4 σ = some o) (H : Heap) (locs : List Loc) (ls : Array Slot) (hl : lv_has ls 8 [(0, .ref (ka K 10)), (1, .int x1), (4, .int x4)]) (hW : gw_ (kD K) vwCl (tyX K) (wX K) A s σ H locs) : W p l e rXX7_pointersHold_10 s m args below meth c H locs 0 0 (MQ below (va_Qi (fun r u => (r = o.1 ∧ u = o.2) ∧ (o.1 = 0 ∨ o.1 = 1)) (gw_B (kD K) vwCl (tyX K) (wX K) A) A) args s rXX7_pointersHold_10.cells rXX7_pointersHold_10.slots A) (F0 m 95 ls []) := by
  have hx := F.1
  have hb := F.2.1
  have hml := F.2.2.2.1
  have hown := F.2.2.2.2.1
  have hts := F.2.2.2.2.2.1
  have hG : ∀ x ∈ gT, x.before args s = true := fun x h => hts x (List.mem_cons_of_mem _ h)
  unfold fXX7_pointersHold_10_95 at hf
  refine lv_aload_n hx hb dX7_pointersHold_95 rfl (lv_at hl 0 rfl) ?_
  refine gw_get (v := .ref (ka K 1)) F inc_X7 hW 10 7 0 (aX_10 K σ) rfl (by decide) (hG _ q_1_170) (fun _ h9 => h9) rfl dX7_pointersHold_96 ?_
  refine lv_iload_n hx hb dX7_pointersHold_99 rfl (lv_at hl 1 rfl) ?_
  refine lv_bipush (v := (92 : Int32)) hx hb dX7_pointersHold_100 (by decide) ?_
  refine lv_iadd hx hb dX7_pointersHold_102 ?_
  obtain ⟨o14, h15, hf⟩ := gw_bind hf
  refine gw_Vi (As := [.int (x1 + (92 : Int32))]) (mc' := 0) (ms' := 0) F hW (mXX1_get4_1 h15) (cwV 1 hts (gT_V q_2_113 q_2_114 q_2_115 q_1_3 q_2_116) rfl rfl rfl hdX1_get4 ⟨Nat.le_of_ble_eq_true rfl, Nat.le_of_ble_eq_true rfl⟩) 1 1 (aX_1 K σ) rfl rfl hl.1 rfl (Nat.le_of_ble_eq_true rfl) dX7_pointersHold_103 ⟨Nat.le_of_ble_eq_true rfl, Nat.le_of_ble_eq_true rfl⟩ rfl rfl (fun H locs hW => ?_)
  refine lv_sipush (v := (1024 : Int32)) hx hb dX7_pointersHold_106 (by decide) ?_
  refine lv_imul hx hb dX7_pointersHold_109 ?_
  refine lv_istore (lv' := [(5, .int (o14.1 * (1024 : Int32))), (0, .ref (ka K 10)), (1, .int x1), (4, .int x4)]) hx hb dX7_pointersHold_110 hl (by decide) rfl (fun ls hl => ?_)
  refine lv_iload hx hb dX7_pointersHold_112 (lv_at hl 3 rfl) ?_
  refine lv_sipush (v := (256 : Int32)) hx hb dX7_pointersHold_114 (by decide) ?_
  refine lv_iadd hx hb dX7_pointersHold_117 ?_
  refine lv_iconst (v := (1 : Int32)) hx hb dX7_pointersHold_118 (by decide) ?_
  refine lv_isub hx hb dX7_pointersHold_119 ?_
  refine lv_sipush (v := (256 : Int32)) hx hb dX7_pointersHold_120 (by decide) ?_
  refine lv_idiv hx hb dX7_pointersHold_123 (by decide) ?_
  refine lv_istore (lv' := [(6, .int (((x4 + (256 : Int32)) - (1 : Int32)) / (256 : Int32))), (5, .int (o14.1 * (1024 : Int32))), (0, .ref (ka K 10)), (1, .int x1), (4, .int x4)]) hx hb dX7_pointersHold_124 hl (by decide) rfl (fun ls hl => ?_)
  refine lv_iload hx hb dX7_pointersHold_126 (lv_at hl 0 rfl) ?_
  refine lv_if_le (tgt := 147) hx hb dX7_pointersHold_128 (by decide) (fun c17 => ?_) (fun c17 => ?_)
  · replace hf := (if_pos c17).symm.trans hf
    exact wXX7_pointersHold_10_147 F x4 (o14.1 * (1024 : Int32)) (((x4 + (256 : Int32)) - (1 : Int32)) / (256 : Int32)) _ _ hf _ _ _ (lv_sub hl [2, 4, 1, 0] rfl) hW
  · replace hf := (if_neg c17).symm.trans hf
    refine lv_aload_n hx hb dX7_pointersHold_131 rfl (lv_at hl 2 rfl) ?_
    refine lv_iload hx hb dX7_pointersHold_132 (lv_at hl 1 rfl) ?_
    refine lv_sipush (v := (256 : Int32)) hx hb dX7_pointersHold_134 (by decide) ?_
    refine lv_iload hx hb dX7_pointersHold_137 (lv_at hl 0 rfl) ?_
    obtain ⟨o26, h27, hf⟩ := gw_bind hf
    refine gw_Vz (As := [.int (o14.1 * (1024 : Int32)), .int (256 : Int32), .int (((x4 + (256 : Int32)) - (1 : Int32)) / (256 : Int32))]) (mc' := 0) (ms' := 0) F hW (mXX7_rowHolds_10 h27) (cwV 3 hts (gT_V q_2_135 q_2_137 qp_5 q_1_9 q_2_138) rfl rfl rfl hdX7_rowHolds ⟨Nat.le_of_ble_eq_true rfl, Nat.le_of_ble_eq_true rfl⟩) 10 7 (aX_10 K o14.2) rfl rfl hl.1 rfl (Nat.le_of_ble_eq_true rfl) dX7_pointersHold_139 ⟨Nat.le_of_ble_eq_true rfl, Nat.le_of_ble_eq_true rfl⟩ rfl rfl (fun H locs z28 hW => ?_)
    refine lv_if_ne (tgt := 147) hx hb dX7_pointersHold_142 (by decide) (fun c29 => ?_) (fun c29 => ?_)
    · replace hf := (if_neg c29).symm.trans hf
      exact wXX7_pointersHold_10_147 F x4 (o14.1 * (1024 : Int32)) (((x4 + (256 : Int32)) - (1 : Int32)) / (256 : Int32)) _ _ hf _ _ _ (lv_sub hl [2, 4, 1, 0] rfl) hW
    · replace hf := (if_pos c29).symm.trans hf
      refine lv_iconst (v := (0 : Int32)) hx hb dX7_pointersHold_145 (by decide) ?_
      exact gw_retz F hW hf (Or.inl rfl) dX7_pointersHold_146
set_option maxHeartbeats 4000000 in
set_option maxRecDepth 100000 in
theorem wXX7_pointersHold_10_0 {p : Program} {l : Launch} {e : Env} {s : State} {m : MethodId} {args : Array Value} {below : List Frame} {meth : Method} {c : Code} {A : Nat → Prop} {K : KX} (F : fx_ p s m args meth c cX7_pointersHold 8 (some .boolean) RX7 wsX7_pointersHold) (x1 : Int32) (x2 : Int32) (σ : XS) (o : (Int32 × XS)) (hf : fXX7_pointersHold_10_0 (kn K) x1 x2 σ = some o) (H : Heap) (locs : List Loc) (ls : Array Slot) (hl : lv_has ls 8 [(0, .ref (ka K 10)), (1, .int x1), (2, .int x2)]) (hW : gw_ (kD K) vwCl (tyX K) (wX K) A s σ H locs) : W p l e rXX7_pointersHold_10 s m args below meth c H locs 0 0 (MQ below (va_Qi (fun r u => (r = o.1 ∧ u = o.2) ∧ (o.1 = 0 ∨ o.1 = 1)) (gw_B (kD K) vwCl (tyX K) (wX K) A) A) args s rXX7_pointersHold_10.cells rXX7_pointersHold_10.slots A) (F0 m 0 ls []) := by
  have hx := F.1
  have hb := F.2.1
  have hml := F.2.2.2.1
  have hown := F.2.2.2.2.1
  have hts := F.2.2.2.2.2.1
  have hG : ∀ x ∈ gT, x.before args s = true := fun x h => hts x (List.mem_cons_of_mem _ h)
  unfold fXX7_pointersHold_10_0 at hf
  refine lv_iconst (v := (0 : Int32)) hx hb dX7_pointersHold_0 (by decide) ?_
  refine lv_iload_n hx hb dX7_pointersHold_1 rfl (lv_at hl 2 rfl) ?_
  refine lv_bipush (v := (12 : Int32)) hx hb dX7_pointersHold_2 (by decide) ?_
  refine lv_isub hx hb dX7_pointersHold_4 ?_
  refine va_mmax (own := RX7) hx hb (hml.trans hl.1.symm) hown (hG _ q_1_169) (hG _ q_1_44) (hG _ q_1_2) (hG _ q_1_45) (Nat.le_of_ble_eq_true rfl) (Nat.le_of_ble_eq_true rfl) (Nat.le_of_ble_eq_true rfl) (Nat.le_of_ble_eq_true rfl) dX7_pointersHold_5 ?_
  refine lv_istore_n (lv' := [(3, .int (if (0 : Int32) < (x2 - (12 : Int32)) then (x2 - (12 : Int32)) else (0 : Int32))), (0, .ref (ka K 10)), (1, .int x1), (2, .int x2)]) hx hb dX7_pointersHold_8 rfl hl (by decide) rfl (fun ls hl => ?_)
  refine lv_iconst (v := (0 : Int32)) hx hb dX7_pointersHold_9 (by decide) ?_
  refine lv_iload_n hx hb dX7_pointersHold_10 rfl (lv_at hl 3 rfl) ?_
  refine lv_sipush (v := (268 : Int32)) hx hb dX7_pointersHold_11 (by decide) ?_
  refine lv_isub hx hb dX7_pointersHold_14 ?_
  refine va_mmax (own := RX7) hx hb (hml.trans hl.1.symm) hown (hG _ q_1_169) (hG _ q_1_44) (hG _ q_1_2) (hG _ q_1_45) (Nat.le_of_ble_eq_true rfl) (Nat.le_of_ble_eq_true rfl) (Nat.le_of_ble_eq_true rfl) (Nat.le_of_ble_eq_true rfl) dX7_pointersHold_15 ?_
  refine lv_istore (lv' := [(4, .int (if (0 : Int32) < (x2 - (268 : Int32)) then (x2 - (268 : Int32)) else (0 : Int32))), (3, .int (if (0 : Int32) < (x2 - (12 : Int32)) then (x2 - (12 : Int32)) else (0 : Int32))), (0, .ref (ka K 10)), (1, .int x1), (2, .int x2)]) hx hb dX7_pointersHold_18 hl (by decide) rfl (fun ls hl => ?_)
  refine lv_aload_n hx hb dX7_pointersHold_20 rfl (lv_at hl 2 rfl) ?_
  refine lv_iload_n hx hb dX7_pointersHold_21 rfl (lv_at hl 3 rfl) ?_
  refine lv_bipush (v := (40 : Int32)) hx hb dX7_pointersHold_22 (by decide) ?_
  refine lv_iadd hx hb dX7_pointersHold_24 ?_
  refine lv_bipush (v := (12 : Int32)) hx hb dX7_pointersHold_25 (by decide) ?_
  refine lv_iload_n hx hb dX7_pointersHold_27 rfl (lv_at hl 4 rfl) ?_
  obtain ⟨o1, h2, hf⟩ := gw_bind hf
  refine gw_Vz (As := [.int (x1 + (40 : Int32)), .int (12 : Int32), .int x2]) (mc' := 0) (ms' := 0) F hW (mXX7_rowHolds_10 h2) (cwV 3 hts (gT_V q_2_135 q_2_137 qp_5 q_1_9 q_2_138) rfl rfl rfl hdX7_rowHolds ⟨Nat.le_of_ble_eq_true rfl, Nat.le_of_ble_eq_true rfl⟩) 10 7 (aX_10 K σ) rfl rfl hl.1 rfl (Nat.le_of_ble_eq_true rfl) dX7_pointersHold_28 ⟨Nat.le_of_ble_eq_true rfl, Nat.le_of_ble_eq_true rfl⟩ rfl rfl (fun H locs z3 hW => ?_)
  refine lv_if_eq (tgt := 61) hx hb dX7_pointersHold_31 (by decide) (fun c4 => ?_) (fun c4 => ?_)
  · replace hf := (if_pos c4).symm.trans hf
    refine lv_iconst (v := (0 : Int32)) hx hb dX7_pointersHold_61 (by decide) ?_
    exact gw_retz F hW hf (Or.inl rfl) dX7_pointersHold_62
  · replace hf := (if_neg c4).symm.trans hf
    refine lv_aload_n hx hb dX7_pointersHold_34 rfl (lv_at hl 2 rfl) ?_
    refine lv_iload_n hx hb dX7_pointersHold_35 rfl (lv_at hl 3 rfl) ?_
    refine lv_bipush (v := (88 : Int32)) hx hb dX7_pointersHold_36 (by decide) ?_
    refine lv_iadd hx hb dX7_pointersHold_38 ?_
    refine lv_iconst (v := (1 : Int32)) hx hb dX7_pointersHold_39 (by decide) ?_
    refine lv_iload_n hx hb dX7_pointersHold_40 rfl (lv_at hl 1 rfl) ?_
    obtain ⟨o5, h6, hf⟩ := gw_bind hf
    refine gw_Vz (As := [.int (x1 + (88 : Int32)), .int (1 : Int32), .int (if (0 : Int32) < (x2 - (12 : Int32)) then (x2 - (12 : Int32)) else (0 : Int32))]) (mc' := 0) (ms' := 0) F hW (mXX7_rowHolds_10 h6) (cwV 3 hts (gT_V q_2_135 q_2_137 qp_5 q_1_9 q_2_138) rfl rfl rfl hdX7_rowHolds ⟨Nat.le_of_ble_eq_true rfl, Nat.le_of_ble_eq_true rfl⟩) 10 7 (aX_10 K o1.2) rfl rfl hl.1 rfl (Nat.le_of_ble_eq_true rfl) dX7_pointersHold_41 ⟨Nat.le_of_ble_eq_true rfl, Nat.le_of_ble_eq_true rfl⟩ rfl rfl (fun H locs z7 hW => ?_)
    refine lv_if_eq (tgt := 61) hx hb dX7_pointersHold_44 (by decide) (fun c8 => ?_) (fun c8 => ?_)
    · replace hf := (if_pos c8).symm.trans hf
      refine lv_iconst (v := (0 : Int32)) hx hb dX7_pointersHold_61 (by decide) ?_
      exact gw_retz F hW hf (Or.inl rfl) dX7_pointersHold_62
    · replace hf := (if_neg c8).symm.trans hf
      refine lv_aload_n hx hb dX7_pointersHold_47 rfl (lv_at hl 2 rfl) ?_
      refine lv_iload_n hx hb dX7_pointersHold_48 rfl (lv_at hl 3 rfl) ?_
      refine lv_bipush (v := (92 : Int32)) hx hb dX7_pointersHold_49 (by decide) ?_
      refine lv_iadd hx hb dX7_pointersHold_51 ?_
      refine lv_iconst (v := (1 : Int32)) hx hb dX7_pointersHold_52 (by decide) ?_
      refine lv_iload hx hb dX7_pointersHold_53 (lv_at hl 0 rfl) ?_
      obtain ⟨o9, h10, hf⟩ := gw_bind hf
      refine gw_Vz (As := [.int (x1 + (92 : Int32)), .int (1 : Int32), .int (if (0 : Int32) < (x2 - (268 : Int32)) then (x2 - (268 : Int32)) else (0 : Int32))]) (mc' := 0) (ms' := 0) F hW (mXX7_rowHolds_10 h10) (cwV 3 hts (gT_V q_2_135 q_2_137 qp_5 q_1_9 q_2_138) rfl rfl rfl hdX7_rowHolds ⟨Nat.le_of_ble_eq_true rfl, Nat.le_of_ble_eq_true rfl⟩) 10 7 (aX_10 K o5.2) rfl rfl hl.1 rfl (Nat.le_of_ble_eq_true rfl) dX7_pointersHold_55 ⟨Nat.le_of_ble_eq_true rfl, Nat.le_of_ble_eq_true rfl⟩ rfl rfl (fun H locs z11 hW => ?_)
      refine lv_if_ne (tgt := 63) hx hb dX7_pointersHold_58 (by decide) (fun c12 => ?_) (fun c12 => ?_)
      · replace hf := (if_neg c12).symm.trans hf
        refine lv_iload_n hx hb dX7_pointersHold_63 rfl (lv_at hl 1 rfl) ?_
        refine lv_if_le (tgt := 95) hx hb dX7_pointersHold_64 (by decide) (fun c13 => ?_) (fun c13 => ?_)
        · replace hf := (if_pos c13).symm.trans hf
          exact wXX7_pointersHold_10_95 F x1 (if (0 : Int32) < (x2 - (268 : Int32)) then (x2 - (268 : Int32)) else (0 : Int32)) _ _ hf _ _ _ (lv_sub hl [2, 3, 0] rfl) hW
        · replace hf := (if_neg c13).symm.trans hf
          refine lv_aload_n hx hb dX7_pointersHold_67 rfl (lv_at hl 2 rfl) ?_
          refine lv_aload_n hx hb dX7_pointersHold_68 rfl (lv_at hl 2 rfl) ?_
          refine gw_get (v := .ref (ka K 1)) F inc_X7 hW 10 7 0 (aX_10 K o9.2) rfl (by decide) (hG _ q_1_170) (fun _ h9 => h9) rfl dX7_pointersHold_69 ?_
          refine lv_iload_n hx hb dX7_pointersHold_72 rfl (lv_at hl 3 rfl) ?_
          refine lv_bipush (v := (88 : Int32)) hx hb dX7_pointersHold_73 (by decide) ?_
          refine lv_iadd hx hb dX7_pointersHold_75 ?_
          obtain ⟨o30, h31, hf⟩ := gw_bind hf
          refine gw_Vi (As := [.int (x1 + (88 : Int32))]) (mc' := 0) (ms' := 0) F hW (mXX1_get4_1 h31) (cwV 1 hts (gT_V q_2_113 q_2_114 q_2_115 q_1_3 q_2_116) rfl rfl rfl hdX1_get4 ⟨Nat.le_of_ble_eq_true rfl, Nat.le_of_ble_eq_true rfl⟩) 1 1 (aX_1 K o9.2) rfl rfl hl.1 rfl (Nat.le_of_ble_eq_true rfl) dX7_pointersHold_76 ⟨Nat.le_of_ble_eq_true rfl, Nat.le_of_ble_eq_true rfl⟩ rfl rfl (fun H locs hW => ?_)
          refine lv_sipush (v := (1024 : Int32)) hx hb dX7_pointersHold_79 (by decide) ?_
          refine lv_imul hx hb dX7_pointersHold_82 ?_
          refine lv_sipush (v := (256 : Int32)) hx hb dX7_pointersHold_83 (by decide) ?_
          refine lv_iload_n hx hb dX7_pointersHold_86 rfl (lv_at hl 1 rfl) ?_
          obtain ⟨o33, h34, hf⟩ := gw_bind hf
          refine gw_Vz (As := [.int (o30.1 * (1024 : Int32)), .int (256 : Int32), .int (if (0 : Int32) < (x2 - (12 : Int32)) then (x2 - (12 : Int32)) else (0 : Int32))]) (mc' := 0) (ms' := 0) F hW (mXX7_rowHolds_10 h34) (cwV 3 hts (gT_V q_2_135 q_2_137 qp_5 q_1_9 q_2_138) rfl rfl rfl hdX7_rowHolds ⟨Nat.le_of_ble_eq_true rfl, Nat.le_of_ble_eq_true rfl⟩) 10 7 (aX_10 K o30.2) rfl rfl hl.1 rfl (Nat.le_of_ble_eq_true rfl) dX7_pointersHold_87 ⟨Nat.le_of_ble_eq_true rfl, Nat.le_of_ble_eq_true rfl⟩ rfl rfl (fun H locs z35 hW => ?_)
          refine lv_if_ne (tgt := 95) hx hb dX7_pointersHold_90 (by decide) (fun c36 => ?_) (fun c36 => ?_)
          · replace hf := (if_neg c36).symm.trans hf
            exact wXX7_pointersHold_10_95 F x1 (if (0 : Int32) < (x2 - (268 : Int32)) then (x2 - (268 : Int32)) else (0 : Int32)) _ _ hf _ _ _ (lv_sub hl [2, 3, 0] rfl) hW
          · replace hf := (if_pos c36).symm.trans hf
            refine lv_iconst (v := (0 : Int32)) hx hb dX7_pointersHold_93 (by decide) ?_
            exact gw_retz F hW hf (Or.inl rfl) dX7_pointersHold_94
      · replace hf := (if_pos c12).symm.trans hf
        refine lv_iconst (v := (0 : Int32)) hx hb dX7_pointersHold_61 (by decide) ?_
        exact gw_retz F hW hf (Or.inl rfl) dX7_pointersHold_62
set_option maxHeartbeats 4000000 in
set_option maxRecDepth 100000 in
theorem mXX7_pointersHold_10 {l : Launch} {K : KX} {σ : XS} {x1 : Int32} {x2 : Int32} {o : (Int32 × XS)} (hf : fXX7_pointersHold_10 (kn K) x1 x2 σ = some o) : gw_Mz l (kD K) vwCl (tyX K) (wX K) yX7_pointersHold wsX7_pointersHold rXX7_pointersHold_10 [.ref (ka K 10), .int x1, .int x2] σ o := by
  intro sz
  refine gw_body (cc := cX7_pointersHold) (maxL := 8) (yret := some .boolean) (by decide +kernel) rfl ?_ (Nat.le_of_ble_eq_true rfl)
  intro p e s m below meth c F hsz hW ls hl
  exact wXX7_pointersHold_10_0 F x1 x2 σ o hf s.heap [] ls hl hW
abbrev rXX7_inodeHolds_10 : Room := { frames := 3, cells := 0, slots := 0, locals := 73 }
set_option maxHeartbeats 4000000 in
set_option maxRecDepth 100000 in
theorem wXX7_inodeHolds_10_33 {p : Program} {l : Launch} {e : Env} {s : State} {m : MethodId} {args : Array Value} {below : List Frame} {meth : Method} {c : Code} {A : Nat → Prop} {K : KX} (F : fx_ p s m args meth c cX7_inodeHolds 5 (some .boolean) RX7 wsX7_inodeHolds) (x1 : Int32) (x3 : Int32) (σ : XS) (o : (Int32 × XS)) (hf : fXX7_inodeHolds_10_33 (kn K) x1 x3 σ = some o) (H : Heap) (locs : List Loc) (ls : Array Slot) (hl : lv_has ls 5 [(0, .ref (ka K 10)), (1, .int x1), (3, .int x3)]) (hW : gw_ (kD K) vwCl (tyX K) (wX K) A s σ H locs) : W p l e rXX7_inodeHolds_10 s m args below meth c H locs 0 0 (MQ below (va_Qi (fun r u => (r = o.1 ∧ u = o.2) ∧ (o.1 = 0 ∨ o.1 = 1)) (gw_B (kD K) vwCl (tyX K) (wX K) A) A) args s rXX7_inodeHolds_10.cells rXX7_inodeHolds_10.slots A) (F0 m 33 ls []) := by
  have hx := F.1
  have hb := F.2.1
  have hml := F.2.2.2.1
  have hown := F.2.2.2.2.1
  have hts := F.2.2.2.2.2.1
  have hG : ∀ x ∈ gT, x.before args s = true := fun x h => hts x (List.mem_cons_of_mem _ h)
  unfold fXX7_inodeHolds_10_33 at hf
  refine lv_iload_n hx hb dX7_inodeHolds_33 rfl (lv_at hl 2 rfl) ?_
  refine lv_if_lt (tgt := 48) hx hb dX7_inodeHolds_34 (by decide) (fun c8 => ?_) (fun c8 => ?_)
  · replace hf := (if_pos c8).symm.trans hf
    refine lv_iconst (v := (0 : Int32)) hx hb dX7_inodeHolds_48 (by decide) ?_
    exact gw_retz F hW hf (Or.inl rfl) dX7_inodeHolds_49
  · replace hf := (if_neg c8).symm.trans hf
    refine lv_iload_n hx hb dX7_inodeHolds_37 rfl (lv_at hl 2 rfl) ?_
    refine lv_aload_n hx hb dX7_inodeHolds_38 rfl (lv_at hl 0 rfl) ?_
    refine gw_get (v := .ref (ka K 1)) F inc_X7 hW 10 7 0 (aX_10 K σ) rfl (by decide) (hG _ q_1_170) (fun _ h9 => h9) rfl dX7_inodeHolds_39 ?_
    obtain ⟨o9, h10, hf⟩ := gw_bind hf
    refine gw_Vi (As := []) (mc' := 0) (ms' := 0) F hW (mXX1_length_1 h10) (cwV 0 hts (gT_V q_2_118 q_2_44 q_2_45 q_1_3 q_2_46) rfl rfl rfl hdX1_length ⟨Nat.le_of_ble_eq_true rfl, Nat.le_of_ble_eq_true rfl⟩) 1 1 (aX_1 K σ) rfl rfl hl.1 rfl (Nat.le_of_ble_eq_true rfl) dX7_inodeHolds_42 ⟨Nat.le_of_ble_eq_true rfl, Nat.le_of_ble_eq_true rfl⟩ rfl rfl (fun H locs hW => ?_)
    refine lv_icmp_le (tgt := 50) hx hb dX7_inodeHolds_45 (by decide) (fun c12 => ?_) (fun c12 => ?_)
    · replace hf := (if_pos c12).symm.trans hf
      refine lv_iload_n hx hb dX7_inodeHolds_50 rfl (lv_at hl 2 rfl) ?_
      obtain ⟨o13, h14, hf⟩ := gw_bind hf
      refine gw_Si (As := [.int x3]) (mc' := 0) (ms' := 0) F hW (mXX4_blocksFor h14) (va_cwS 1 hts (gT_S q_2_119 q_2_120 q_1_6 q_2_121) rfl rfl rfl hdX4_blocksFor.2 ⟨Nat.le_of_ble_eq_true rfl, Nat.le_of_ble_eq_true rfl⟩) rfl hl.1 rfl (Nat.le_of_ble_eq_true rfl) dX7_inodeHolds_51 ⟨Nat.le_of_ble_eq_true rfl, Nat.le_of_ble_eq_true rfl⟩ rfl rfl (fun H locs hW => ?_)
      refine lv_istore (lv' := [(4, .int o13.1), (0, .ref (ka K 10)), (1, .int x1), (3, .int x3)]) hx hb dX7_inodeHolds_54 hl (by decide) rfl (fun ls hl => ?_)
      refine lv_aload_n hx hb dX7_inodeHolds_56 rfl (lv_at hl 1 rfl) ?_
      refine gw_get (v := .ref (ka K 1)) F inc_X7 hW 10 7 0 (aX_10 K o13.2) rfl (by decide) (hG _ q_1_170) (fun _ h9 => h9) rfl dX7_inodeHolds_57 ?_
      refine lv_iload_n hx hb dX7_inodeHolds_60 rfl (lv_at hl 2 rfl) ?_
      refine lv_iconst (v := (2 : Int32)) hx hb dX7_inodeHolds_61 (by decide) ?_
      refine lv_iadd hx hb dX7_inodeHolds_62 ?_
      refine lv_iload_n hx hb dX7_inodeHolds_63 rfl (lv_at hl 2 rfl) ?_
      refine lv_iconst (v := (4 : Int32)) hx hb dX7_inodeHolds_64 (by decide) ?_
      refine lv_iadd hx hb dX7_inodeHolds_65 ?_
      obtain ⟨o16, h17, hf⟩ := gw_bind hf
      refine gw_Vz (As := [.int (x1 + (2 : Int32)), .int (x1 + (4 : Int32))]) (mc' := 0) (ms' := 0) F hW (mXX1_isZero_1 h17) (cwV 2 hts (gT_V q_2_122 q_2_123 q_2_124 q_1_3 q_2_125) rfl rfl rfl hdX1_isZero ⟨Nat.le_of_ble_eq_true rfl, Nat.le_of_ble_eq_true rfl⟩) 1 1 (aX_1 K o13.2) rfl rfl hl.1 rfl (Nat.le_of_ble_eq_true rfl) dX7_inodeHolds_66 ⟨Nat.le_of_ble_eq_true rfl, Nat.le_of_ble_eq_true rfl⟩ rfl rfl (fun H locs z18 hW => ?_)
      refine lv_if_eq (tgt := 169) hx hb dX7_inodeHolds_69 (by decide) (fun c19 => ?_) (fun c19 => ?_)
      · replace hf := (if_pos c19).symm.trans hf
        refine lv_iconst (v := (0 : Int32)) hx hb dX7_inodeHolds_169 (by decide) ?_
        exact gw_retz F hW hf (Or.inl rfl) dX7_inodeHolds_170
      · replace hf := (if_neg c19).symm.trans hf
        refine lv_aload_n hx hb dX7_inodeHolds_72 rfl (lv_at hl 1 rfl) ?_
        refine gw_get (v := .ref (ka K 1)) F inc_X7 hW 10 7 0 (aX_10 K o16.2) rfl (by decide) (hG _ q_1_170) (fun _ h9 => h9) rfl dX7_inodeHolds_73 ?_
        refine lv_iload_n hx hb dX7_inodeHolds_76 rfl (lv_at hl 2 rfl) ?_
        refine lv_bipush (v := (8 : Int32)) hx hb dX7_inodeHolds_77 (by decide) ?_
        refine lv_iadd hx hb dX7_inodeHolds_79 ?_
        refine lv_bipush (v := (12 : Int32)) hx hb dX7_inodeHolds_80 (by decide) ?_
        refine lv_iadd hx hb dX7_inodeHolds_82 ?_
        refine lv_iload_n hx hb dX7_inodeHolds_83 rfl (lv_at hl 2 rfl) ?_
        refine lv_bipush (v := (26 : Int32)) hx hb dX7_inodeHolds_84 (by decide) ?_
        refine lv_iadd hx hb dX7_inodeHolds_86 ?_
        obtain ⟨o20, h21, hf⟩ := gw_bind hf
        refine gw_Vz (As := [.int ((x1 + (8 : Int32)) + (12 : Int32)), .int (x1 + (26 : Int32))]) (mc' := 0) (ms' := 0) F hW (mXX1_isZero_1 h21) (cwV 2 hts (gT_V q_2_122 q_2_123 q_2_124 q_1_3 q_2_125) rfl rfl rfl hdX1_isZero ⟨Nat.le_of_ble_eq_true rfl, Nat.le_of_ble_eq_true rfl⟩) 1 1 (aX_1 K o16.2) rfl rfl hl.1 rfl (Nat.le_of_ble_eq_true rfl) dX7_inodeHolds_87 ⟨Nat.le_of_ble_eq_true rfl, Nat.le_of_ble_eq_true rfl⟩ rfl rfl (fun H locs z22 hW => ?_)
        refine lv_if_eq (tgt := 169) hx hb dX7_inodeHolds_90 (by decide) (fun c23 => ?_) (fun c23 => ?_)
        · replace hf := (if_pos c23).symm.trans hf
          refine lv_iconst (v := (0 : Int32)) hx hb dX7_inodeHolds_169 (by decide) ?_
          exact gw_retz F hW hf (Or.inl rfl) dX7_inodeHolds_170
        · replace hf := (if_neg c23).symm.trans hf
          refine lv_aload_n hx hb dX7_inodeHolds_93 rfl (lv_at hl 1 rfl) ?_
          refine gw_get (v := .ref (ka K 1)) F inc_X7 hW 10 7 0 (aX_10 K o20.2) rfl (by decide) (hG _ q_1_170) (fun _ h9 => h9) rfl dX7_inodeHolds_94 ?_
          refine lv_iload_n hx hb dX7_inodeHolds_97 rfl (lv_at hl 2 rfl) ?_
          refine lv_bipush (v := (28 : Int32)) hx hb dX7_inodeHolds_98 (by decide) ?_
          refine lv_iadd hx hb dX7_inodeHolds_100 ?_
          obtain ⟨o24, h25, hf⟩ := gw_bind hf
          refine gw_Vi (As := [.int (x1 + (28 : Int32))]) (mc' := 0) (ms' := 0) F hW (mXX1_get4_1 h25) (cwV 1 hts (gT_V q_2_113 q_2_114 q_2_115 q_1_3 q_2_116) rfl rfl rfl hdX1_get4 ⟨Nat.le_of_ble_eq_true rfl, Nat.le_of_ble_eq_true rfl⟩) 1 1 (aX_1 K o20.2) rfl rfl hl.1 rfl (Nat.le_of_ble_eq_true rfl) dX7_inodeHolds_101 ⟨Nat.le_of_ble_eq_true rfl, Nat.le_of_ble_eq_true rfl⟩ rfl rfl (fun H locs hW => ?_)
          refine lv_iconst (v := (2 : Int32)) hx hb dX7_inodeHolds_104 (by decide) ?_
          refine lv_iload hx hb dX7_inodeHolds_105 (lv_at hl 0 rfl) ?_
          obtain ⟨o27, h28, hf⟩ := gw_bind hf
          refine gw_Si (As := [.int o13.1]) (mc' := 0) (ms' := 0) F hW (mXX4_withIndirect h28) (va_cwS 1 hts (gT_S q_2_128 q_2_129 q_1_6 q_2_130) rfl rfl rfl hdX4_withIndirect.2 ⟨Nat.le_of_ble_eq_true rfl, Nat.le_of_ble_eq_true rfl⟩) rfl hl.1 rfl (Nat.le_of_ble_eq_true rfl) dX7_inodeHolds_107 ⟨Nat.le_of_ble_eq_true rfl, Nat.le_of_ble_eq_true rfl⟩ rfl rfl (fun H locs hW => ?_)
          refine lv_imul hx hb dX7_inodeHolds_110 ?_
          refine lv_icmp_ne (tgt := 169) hx hb dX7_inodeHolds_111 (by decide) (fun c30 => ?_) (fun c30 => ?_)
          · replace hf := (if_neg c30).symm.trans hf
            refine lv_iconst (v := (0 : Int32)) hx hb dX7_inodeHolds_169 (by decide) ?_
            exact gw_retz F hW hf (Or.inl rfl) dX7_inodeHolds_170
          · replace hf := (if_pos c30).symm.trans hf
            refine lv_aload_n hx hb dX7_inodeHolds_114 rfl (lv_at hl 1 rfl) ?_
            refine gw_get (v := .ref (ka K 1)) F inc_X7 hW 10 7 0 (aX_10 K o27.2) rfl (by decide) (hG _ q_1_170) (fun _ h9 => h9) rfl dX7_inodeHolds_115 ?_
            refine lv_iload_n hx hb dX7_inodeHolds_118 rfl (lv_at hl 2 rfl) ?_
            refine lv_bipush (v := (28 : Int32)) hx hb dX7_inodeHolds_119 (by decide) ?_
            refine lv_iadd hx hb dX7_inodeHolds_121 ?_
            refine lv_iconst (v := (4 : Int32)) hx hb dX7_inodeHolds_122 (by decide) ?_
            refine lv_iadd hx hb dX7_inodeHolds_123 ?_
            refine lv_iload_n hx hb dX7_inodeHolds_124 rfl (lv_at hl 2 rfl) ?_
            refine lv_bipush (v := (40 : Int32)) hx hb dX7_inodeHolds_125 (by decide) ?_
            refine lv_iadd hx hb dX7_inodeHolds_127 ?_
            obtain ⟨o31, h32, hf⟩ := gw_bind hf
            refine gw_Vz (As := [.int ((x1 + (28 : Int32)) + (4 : Int32)), .int (x1 + (40 : Int32))]) (mc' := 0) (ms' := 0) F hW (mXX1_isZero_1 h32) (cwV 2 hts (gT_V q_2_122 q_2_123 q_2_124 q_1_3 q_2_125) rfl rfl rfl hdX1_isZero ⟨Nat.le_of_ble_eq_true rfl, Nat.le_of_ble_eq_true rfl⟩) 1 1 (aX_1 K o27.2) rfl rfl hl.1 rfl (Nat.le_of_ble_eq_true rfl) dX7_inodeHolds_128 ⟨Nat.le_of_ble_eq_true rfl, Nat.le_of_ble_eq_true rfl⟩ rfl rfl (fun H locs z33 hW => ?_)
            refine lv_if_eq (tgt := 169) hx hb dX7_inodeHolds_131 (by decide) (fun c34 => ?_) (fun c34 => ?_)
            · replace hf := (if_pos c34).symm.trans hf
              refine lv_iconst (v := (0 : Int32)) hx hb dX7_inodeHolds_169 (by decide) ?_
              exact gw_retz F hW hf (Or.inl rfl) dX7_inodeHolds_170
            · replace hf := (if_neg c34).symm.trans hf
              refine lv_aload_n hx hb dX7_inodeHolds_134 rfl (lv_at hl 1 rfl) ?_
              refine gw_get (v := .ref (ka K 1)) F inc_X7 hW 10 7 0 (aX_10 K o31.2) rfl (by decide) (hG _ q_1_170) (fun _ h9 => h9) rfl dX7_inodeHolds_135 ?_
              refine lv_iload_n hx hb dX7_inodeHolds_138 rfl (lv_at hl 2 rfl) ?_
              refine lv_bipush (v := (92 : Int32)) hx hb dX7_inodeHolds_139 (by decide) ?_
              refine lv_iadd hx hb dX7_inodeHolds_141 ?_
              refine lv_iconst (v := (4 : Int32)) hx hb dX7_inodeHolds_142 (by decide) ?_
              refine lv_iadd hx hb dX7_inodeHolds_143 ?_
              refine lv_iload_n hx hb dX7_inodeHolds_144 rfl (lv_at hl 2 rfl) ?_
              refine lv_sipush (v := (128 : Int32)) hx hb dX7_inodeHolds_145 (by decide) ?_
              refine lv_iadd hx hb dX7_inodeHolds_148 ?_
              obtain ⟨o35, h36, hf⟩ := gw_bind hf
              refine gw_Vz (As := [.int ((x1 + (92 : Int32)) + (4 : Int32)), .int (x1 + (128 : Int32))]) (mc' := 0) (ms' := 0) F hW (mXX1_isZero_1 h36) (cwV 2 hts (gT_V q_2_122 q_2_123 q_2_124 q_1_3 q_2_125) rfl rfl rfl hdX1_isZero ⟨Nat.le_of_ble_eq_true rfl, Nat.le_of_ble_eq_true rfl⟩) 1 1 (aX_1 K o31.2) rfl rfl hl.1 rfl (Nat.le_of_ble_eq_true rfl) dX7_inodeHolds_149 ⟨Nat.le_of_ble_eq_true rfl, Nat.le_of_ble_eq_true rfl⟩ rfl rfl (fun H locs z37 hW => ?_)
              refine lv_if_eq (tgt := 169) hx hb dX7_inodeHolds_152 (by decide) (fun c38 => ?_) (fun c38 => ?_)
              · replace hf := (if_pos c38).symm.trans hf
                refine lv_iconst (v := (0 : Int32)) hx hb dX7_inodeHolds_169 (by decide) ?_
                exact gw_retz F hW hf (Or.inl rfl) dX7_inodeHolds_170
              · replace hf := (if_neg c38).symm.trans hf
                refine lv_aload_n hx hb dX7_inodeHolds_155 rfl (lv_at hl 1 rfl) ?_
                refine lv_iload_n hx hb dX7_inodeHolds_156 rfl (lv_at hl 2 rfl) ?_
                refine lv_iload hx hb dX7_inodeHolds_157 (lv_at hl 0 rfl) ?_
                obtain ⟨o39, h40, hf⟩ := gw_bind hf
                refine gw_Vz (As := [.int x1, .int o13.1]) (mc' := 0) (ms' := 0) F hW (mXX7_pointersHold_10 h40) (cwV 2 hts (gT_V q_2_131 q_2_133 qp_4 q_1_9 q_2_134) rfl rfl rfl hdX7_pointersHold ⟨Nat.le_of_ble_eq_true rfl, Nat.le_of_ble_eq_true rfl⟩) 10 7 (aX_10 K o35.2) rfl rfl hl.1 rfl (Nat.le_of_ble_eq_true rfl) dX7_inodeHolds_159 ⟨Nat.le_of_ble_eq_true rfl, Nat.le_of_ble_eq_true rfl⟩ rfl rfl (fun H locs z41 hW => ?_)
                refine lv_if_eq (tgt := 169) hx hb dX7_inodeHolds_162 (by decide) (fun c42 => ?_) (fun c42 => ?_)
                · replace hf := (if_pos c42).symm.trans hf
                  refine lv_iconst (v := (0 : Int32)) hx hb dX7_inodeHolds_169 (by decide) ?_
                  exact gw_retz F hW hf (Or.inl rfl) dX7_inodeHolds_170
                · replace hf := (if_neg c42).symm.trans hf
                  refine lv_iconst (v := (1 : Int32)) hx hb dX7_inodeHolds_165 (by decide) ?_
                  refine lv_goto (tgt := 170) hx hb dX7_inodeHolds_166 (by decide) ?_
                  exact gw_retz F hW hf (Or.inr rfl) dX7_inodeHolds_170
    · replace hf := (if_neg c12).symm.trans hf
      refine lv_iconst (v := (0 : Int32)) hx hb dX7_inodeHolds_48 (by decide) ?_
      exact gw_retz F hW hf (Or.inl rfl) dX7_inodeHolds_49
set_option maxHeartbeats 4000000 in
set_option maxRecDepth 100000 in
theorem wXX7_inodeHolds_10_0 {p : Program} {l : Launch} {e : Env} {s : State} {m : MethodId} {args : Array Value} {below : List Frame} {meth : Method} {c : Code} {A : Nat → Prop} {K : KX} (F : fx_ p s m args meth c cX7_inodeHolds 5 (some .boolean) RX7 wsX7_inodeHolds) (x1 : Int32) (σ : XS) (o : (Int32 × XS)) (hf : fXX7_inodeHolds_10_0 (kn K) x1 σ = some o) (H : Heap) (locs : List Loc) (ls : Array Slot) (hl : lv_has ls 5 [(0, .ref (ka K 10)), (1, .int x1)]) (hW : gw_ (kD K) vwCl (tyX K) (wX K) A s σ H locs) : W p l e rXX7_inodeHolds_10 s m args below meth c H locs 0 0 (MQ below (va_Qi (fun r u => (r = o.1 ∧ u = o.2) ∧ (o.1 = 0 ∨ o.1 = 1)) (gw_B (kD K) vwCl (tyX K) (wX K) A) A) args s rXX7_inodeHolds_10.cells rXX7_inodeHolds_10.slots A) (F0 m 0 ls []) := by
  have hx := F.1
  have hb := F.2.1
  have hml := F.2.2.2.1
  have hown := F.2.2.2.2.1
  have hts := F.2.2.2.2.2.1
  have hG : ∀ x ∈ gT, x.before args s = true := fun x h => hts x (List.mem_cons_of_mem _ h)
  unfold fXX7_inodeHolds_10_0 at hf
  refine lv_aload_n hx hb dX7_inodeHolds_0 rfl (lv_at hl 0 rfl) ?_
  refine gw_get (v := .ref (ka K 1)) F inc_X7 hW 10 7 0 (aX_10 K σ) rfl (by decide) (hG _ q_1_170) (fun _ h9 => h9) rfl dX7_inodeHolds_1 ?_
  refine lv_iload_n hx hb dX7_inodeHolds_4 rfl (lv_at hl 1 rfl) ?_
  obtain ⟨o1, h2, hf⟩ := gw_bind hf
  refine gw_Vi (As := [.int x1]) (mc' := 0) (ms' := 0) F hW (mXX1_get2_1 h2) (cwV 1 hts (gT_V q_2_109 q_2_110 q_2_111 q_1_3 q_2_112) rfl rfl rfl hdX1_get2 ⟨Nat.le_of_ble_eq_true rfl, Nat.le_of_ble_eq_true rfl⟩) 1 1 (aX_1 K σ) rfl rfl hl.1 rfl (Nat.le_of_ble_eq_true rfl) dX7_inodeHolds_5 ⟨Nat.le_of_ble_eq_true rfl, Nat.le_of_ble_eq_true rfl⟩ rfl rfl (fun H locs hW => ?_)
  refine lv_istore_n (lv' := [(2, .int o1.1), (0, .ref (ka K 10)), (1, .int x1)]) hx hb dX7_inodeHolds_8 rfl hl (by decide) rfl (fun ls hl => ?_)
  refine lv_aload_n hx hb dX7_inodeHolds_9 rfl (lv_at hl 1 rfl) ?_
  refine gw_get (v := .ref (ka K 1)) F inc_X7 hW 10 7 0 (aX_10 K o1.2) rfl (by decide) (hG _ q_1_170) (fun _ h9 => h9) rfl dX7_inodeHolds_10 ?_
  refine lv_iload_n hx hb dX7_inodeHolds_13 rfl (lv_at hl 2 rfl) ?_
  refine lv_iconst (v := (4 : Int32)) hx hb dX7_inodeHolds_14 (by decide) ?_
  refine lv_iadd hx hb dX7_inodeHolds_15 ?_
  obtain ⟨o4, h5, hf⟩ := gw_bind hf
  refine gw_Vi (As := [.int (x1 + (4 : Int32))]) (mc' := 0) (ms' := 0) F hW (mXX1_get4_1 h5) (cwV 1 hts (gT_V q_2_113 q_2_114 q_2_115 q_1_3 q_2_116) rfl rfl rfl hdX1_get4 ⟨Nat.le_of_ble_eq_true rfl, Nat.le_of_ble_eq_true rfl⟩) 1 1 (aX_1 K o1.2) rfl rfl hl.1 rfl (Nat.le_of_ble_eq_true rfl) dX7_inodeHolds_16 ⟨Nat.le_of_ble_eq_true rfl, Nat.le_of_ble_eq_true rfl⟩ rfl rfl (fun H locs hW => ?_)
  refine lv_istore_n (lv' := [(3, .int o4.1), (2, .int o1.1), (0, .ref (ka K 10)), (1, .int x1)]) hx hb dX7_inodeHolds_19 rfl hl (by decide) rfl (fun ls hl => ?_)
  refine lv_iload_n hx hb dX7_inodeHolds_20 rfl (lv_at hl 1 rfl) ?_
  refine lv_sipush (v := (16877 : Int32)) hx hb dX7_inodeHolds_21 (by decide) ?_
  refine lv_icmp_eq (tgt := 33) hx hb dX7_inodeHolds_24 (by decide) (fun c7 => ?_) (fun c7 => ?_)
  · replace hf := (if_pos c7).symm.trans hf
    exact wXX7_inodeHolds_10_33 F x1 o4.1 _ _ hf _ _ _ (lv_sub hl [2, 3, 0] rfl) hW
  · replace hf := (if_neg c7).symm.trans hf
    refine lv_iload_n hx hb dX7_inodeHolds_27 rfl (lv_at hl 1 rfl) ?_
    refine lv_ldc (own := RX7) (v := (33188 : Int32)) hx hb hown (hts _ (List.mem_cons_of_mem _ q_2_117)) dX7_inodeHolds_28 ?_
    refine lv_icmp_ne (tgt := 48) hx hb dX7_inodeHolds_30 (by decide) (fun c43 => ?_) (fun c43 => ?_)
    · replace hf := (if_neg c43).symm.trans hf
      refine lv_iconst (v := (0 : Int32)) hx hb dX7_inodeHolds_48 (by decide) ?_
      exact gw_retz F hW hf (Or.inl rfl) dX7_inodeHolds_49
    · replace hf := (if_pos c43).symm.trans hf
      exact wXX7_inodeHolds_10_33 F x1 o4.1 _ _ hf _ _ _ (lv_sub hl [2, 3, 0] rfl) hW
set_option maxHeartbeats 4000000 in
set_option maxRecDepth 100000 in
theorem mXX7_inodeHolds_10 {l : Launch} {K : KX} {σ : XS} {x1 : Int32} {o : (Int32 × XS)} (hf : fXX7_inodeHolds_10 (kn K) x1 σ = some o) : gw_Mz l (kD K) vwCl (tyX K) (wX K) yX7_inodeHolds wsX7_inodeHolds rXX7_inodeHolds_10 [.ref (ka K 10), .int x1] σ o := by
  intro sz
  refine gw_body (cc := cX7_inodeHolds) (maxL := 5) (yret := some .boolean) (by decide +kernel) rfl ?_ (Nat.le_of_ble_eq_true rfl)
  intro p e s m below meth c F hsz hW ls hl
  exact wXX7_inodeHolds_10_0 F x1 σ o hf s.heap [] ls hl hW
abbrev rXX3_isUsed_5 : Room := { frames := 1, cells := 0, slots := 0, locals := 22 }
set_option maxHeartbeats 4000000 in
set_option maxRecDepth 100000 in
theorem wXX3_isUsed_5_0 {p : Program} {l : Launch} {e : Env} {s : State} {m : MethodId} {args : Array Value} {below : List Frame} {meth : Method} {c : Code} {A : Nat → Prop} {K : KX} (F : fx_ p s m args meth c cX3_isUsed 3 (some .boolean) RX3 wsX3_isUsed) (x1 : Int32) (σ : XS) (o : (Int32 × XS)) (hf : fXX3_isUsed_5_0 (kn K) x1 σ = some o) (H : Heap) (locs : List Loc) (ls : Array Slot) (hl : lv_has ls 3 [(0, .ref (ka K 5)), (1, .int x1)]) (hW : gw_ (kD K) vwCl (tyX K) (wX K) A s σ H locs) : W p l e rXX3_isUsed_5 s m args below meth c H locs 0 0 (MQ below (va_Qi (fun r u => (r = o.1 ∧ u = o.2) ∧ (o.1 = 0 ∨ o.1 = 1)) (gw_B (kD K) vwCl (tyX K) (wX K) A) A) args s rXX3_isUsed_5.cells rXX3_isUsed_5.slots A) (F0 m 0 ls []) := by
  have hx := F.1
  have hb := F.2.1
  have hml := F.2.2.2.1
  have hown := F.2.2.2.2.1
  have hts := F.2.2.2.2.2.1
  have hG : ∀ x ∈ gT, x.before args s = true := fun x h => hts x (List.mem_cons_of_mem _ h)
  unfold fXX3_isUsed_5_0 at hf
  refine lv_aload_n hx hb dX3_isUsed_0 rfl (lv_at hl 0 rfl) ?_
  refine gw_get (v := .int (σ.1 6)) F inc_X3 hW 5 3 5 (aX_5 K σ) rfl (by decide) (hG _ q_1_88) (fun _ h9 => h9) rfl dX3_isUsed_1 ?_
  refine lv_iconst (v := (1 : Int32)) hx hb dX3_isUsed_4 (by decide) ?_
  refine lv_icmp_lt (tgt := 13) hx hb dX3_isUsed_5 (by decide) (fun c1 => ?_) (fun c1 => ?_)
  · replace hf := (if_pos c1).symm.trans hf
    refine lv_iconst (v := (1 : Int32)) hx hb dX3_isUsed_13 (by decide) ?_
    exact gw_retz F hW hf (Or.inr rfl) dX3_isUsed_14
  · replace hf := (if_neg c1).symm.trans hf
    refine lv_iload_n hx hb dX3_isUsed_8 rfl (lv_at hl 1 rfl) ?_
    refine lv_iconst (v := (1 : Int32)) hx hb dX3_isUsed_9 (by decide) ?_
    refine lv_icmp_ge (tgt := 15) hx hb dX3_isUsed_10 (by decide) (fun c2 => ?_) (fun c2 => ?_)
    · replace hf := (if_pos c2).symm.trans hf
      refine lv_iload_n hx hb dX3_isUsed_15 rfl (lv_at hl 1 rfl) ?_
      refine lv_iconst (v := (1 : Int32)) hx hb dX3_isUsed_16 (by decide) ?_
      refine lv_isub hx hb dX3_isUsed_17 ?_
      refine lv_aload_n hx hb dX3_isUsed_18 rfl (lv_at hl 0 rfl) ?_
      refine gw_get (v := .int (σ.1 6)) F inc_X3 hW 5 3 5 (aX_5 K σ) rfl (by decide) (hG _ q_1_88) (fun _ h9 => h9) rfl dX3_isUsed_19 ?_
      rcases Decidable.em ((σ.1 6) = 0) with c3 | c3
      · replace hf := (if_pos c3).symm.trans hf
        exact absurd hf (by simp)
      · replace hf := (if_neg c3).symm.trans hf
        refine lv_irem hx hb dX3_isUsed_22 c3 ?_
        refine lv_istore_n (lv' := [(2, .int ((x1 - (1 : Int32)) - (x1 - (1 : Int32)) / (σ.1 6) * (σ.1 6))), (0, .ref (ka K 5)), (1, .int x1)]) hx hb dX3_isUsed_23 rfl hl (by decide) rfl (fun ls hl => ?_)
        refine lv_aload_n hx hb dX3_isUsed_24 rfl (lv_at hl 1 rfl) ?_
        refine gw_get (v := .ref (ka K 1)) F inc_X3 hW 5 3 0 (aX_5 K σ) rfl (by decide) (hG _ q_1_83) (fun _ h9 => h9) rfl dX3_isUsed_25 ?_
        refine lv_aload_n hx hb dX3_isUsed_28 rfl (lv_at hl 1 rfl) ?_
        refine gw_get (v := .ref (ka K 3)) F inc_X3 hW 5 3 1 (aX_5 K σ) rfl (by decide) (hG _ q_1_84) (fun _ h9 => h9) rfl dX3_isUsed_29 ?_
        refine lv_iload_n hx hb dX3_isUsed_32 rfl (lv_at hl 2 rfl) ?_
        refine lv_iconst (v := (1 : Int32)) hx hb dX3_isUsed_33 (by decide) ?_
        refine lv_isub hx hb dX3_isUsed_34 ?_
        refine lv_aload_n hx hb dX3_isUsed_35 rfl (lv_at hl 1 rfl) ?_
        refine gw_get (v := .int (σ.1 6)) F inc_X3 hW 5 3 5 (aX_5 K σ) rfl (by decide) (hG _ q_1_88) (fun _ h9 => h9) rfl dX3_isUsed_36 ?_
        rcases Decidable.em ((σ.1 6) = 0) with c4 | c4
        · replace hf := (if_pos c4).symm.trans hf
          exact absurd hf (by simp)
        · replace hf := (if_neg c4).symm.trans hf
          refine lv_idiv hx hb dX3_isUsed_39 c4 ?_
          refine lv_aload_n hx hb dX3_isUsed_40 rfl (lv_at hl 1 rfl) ?_
          refine gw_get (v := .int (3 : Int32)) F inc_X3 hW 5 3 2 (aX_5 K σ) rfl (by decide) (hG _ q_1_85) (fun _ h9 => h9) rfl dX3_isUsed_41 ?_
          obtain ⟨o5, h6, hf⟩ := gw_bind hf
          refine gw_Vi (As := [.int ((x1 - (1 : Int32)) / (σ.1 6)), .int (3 : Int32)]) (mc' := 0) (ms' := 0) F hW (mXX2_partAt_3 h6) (cwV 2 hts (gT_V q_2_51 q_2_52 q_2_53 q_1_4 q_2_54) rfl rfl rfl hdX2_partAt ⟨Nat.le_of_ble_eq_true rfl, Nat.le_of_ble_eq_true rfl⟩) 3 2 (aX_3 K σ) rfl rfl hl.1 rfl (Nat.le_of_ble_eq_true rfl) dX3_isUsed_44 ⟨Nat.le_of_ble_eq_true rfl, Nat.le_of_ble_eq_true rfl⟩ rfl rfl (fun H locs hW => ?_)
          refine lv_iload_n hx hb dX3_isUsed_47 rfl (lv_at hl 0 rfl) ?_
          refine lv_bipush (v := (8 : Int32)) hx hb dX3_isUsed_48 (by decide) ?_
          refine lv_idiv hx hb dX3_isUsed_50 (by decide) ?_
          refine lv_iadd hx hb dX3_isUsed_51 ?_
          obtain ⟨o8, h9, hf⟩ := gw_bind hf
          refine gw_Vi (As := [.int (o5.1 + (((x1 - (1 : Int32)) - (x1 - (1 : Int32)) / (σ.1 6) * (σ.1 6)) / (8 : Int32)))]) (mc' := 0) (ms' := 0) F hW (mXX1_get_1 h9) (cwV 1 hts (gT_V q_2_55 q_2_56 q_2_57 q_1_3 q_2_58) rfl rfl rfl hdX1_get ⟨Nat.le_of_ble_eq_true rfl, Nat.le_of_ble_eq_true rfl⟩) 1 1 (aX_1 K o5.2) rfl rfl hl.1 rfl (Nat.le_of_ble_eq_true rfl) dX3_isUsed_52 ⟨Nat.le_of_ble_eq_true rfl, Nat.le_of_ble_eq_true rfl⟩ rfl rfl (fun H locs hW => ?_)
          refine lv_iload_n hx hb dX3_isUsed_55 rfl (lv_at hl 0 rfl) ?_
          refine lv_bipush (v := (8 : Int32)) hx hb dX3_isUsed_56 (by decide) ?_
          refine lv_irem hx hb dX3_isUsed_58 (by decide) ?_
          refine lv_ishr hx hb dX3_isUsed_59 ?_
          refine lv_iconst (v := (1 : Int32)) hx hb dX3_isUsed_60 (by decide) ?_
          refine lv_iand hx hb dX3_isUsed_61 ?_
          refine lv_iconst (v := (1 : Int32)) hx hb dX3_isUsed_62 (by decide) ?_
          refine lv_icmp_ne (tgt := 70) hx hb dX3_isUsed_63 (by decide) (fun c11 => ?_) (fun c11 => ?_)
          · replace hf := (if_neg c11).symm.trans hf
            refine lv_iconst (v := (0 : Int32)) hx hb dX3_isUsed_70 (by decide) ?_
            exact gw_retz F hW hf (Or.inl rfl) dX3_isUsed_71
          · replace hf := (if_pos c11).symm.trans hf
            refine lv_iconst (v := (1 : Int32)) hx hb dX3_isUsed_66 (by decide) ?_
            refine lv_goto (tgt := 71) hx hb dX3_isUsed_67 (by decide) ?_
            exact gw_retz F hW hf (Or.inr rfl) dX3_isUsed_71
    · replace hf := (if_neg c2).symm.trans hf
      refine lv_iconst (v := (1 : Int32)) hx hb dX3_isUsed_13 (by decide) ?_
      exact gw_retz F hW hf (Or.inr rfl) dX3_isUsed_14
set_option maxHeartbeats 4000000 in
set_option maxRecDepth 100000 in
theorem mXX3_isUsed_5 {l : Launch} {K : KX} {σ : XS} {x1 : Int32} {o : (Int32 × XS)} (hf : fXX3_isUsed_5 (kn K) x1 σ = some o) : gw_Mz l (kD K) vwCl (tyX K) (wX K) yX3_isUsed wsX3_isUsed rXX3_isUsed_5 [.ref (ka K 5), .int x1] σ o := by
  intro sz
  refine gw_body (cc := cX3_isUsed) (maxL := 3) (yret := some .boolean) (by decide +kernel) rfl ?_ (Nat.le_of_ble_eq_true rfl)
  intro p e s m below meth c F hsz hW ls hl
  exact wXX3_isUsed_5_0 F x1 σ o hf s.heap [] ls hl hW
