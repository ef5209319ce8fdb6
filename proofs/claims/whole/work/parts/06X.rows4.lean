abbrev rXX5_drop_7 : Room := { frames := 2, cells := 0, slots := 0, locals := 42 }
set_option maxHeartbeats 4000000 in
set_option maxRecDepth 100000 in
theorem wXX5_drop_7_0 {p : Program} {l : Launch} {e : Env} {s : State} {m : MethodId} {args : Array Value} {below : List Frame} {meth : Method} {c : Code} {A : Nat → Prop} {K : KX} (F : fx_ p s m args meth c cX5_drop 4 none RX5 wsX5_drop) (x1 : Int32) (σ : XS) (o : XS) (hf : fXX5_drop_7_0 (kn K) x1 σ = some o) (H : Heap) (locs : List Loc) (ls : Array Slot) (hl : lv_has ls 4 [(0, .ref (ka K 7)), (1, .int x1)]) (hW : gw_ (kD K) vwCl (tyX K) (wX K) A s σ H locs) : W p l e rXX5_drop_7 s m args below meth c H locs 0 0 (MQ below (gw_Qv (kD K) vwCl (tyX K) (wX K) A o) args s rXX5_drop_7.cells rXX5_drop_7.slots A) (F0 m 0 ls []) := by
  have hx := F.1
  have hb := F.2.1
  have hml := F.2.2.2.1
  have hown := F.2.2.2.2.1
  have hts := F.2.2.2.2.2.1
  have hG : ∀ x ∈ gT, x.before args s = true := fun x h => hts x (List.mem_cons_of_mem _ h)
  unfold fXX5_drop_7_0 at hf
  refine lv_aload_n hx hb dX5_drop_0 rfl (lv_at hl 0 rfl) ?_
  refine lv_iload_n hx hb dX5_drop_1 rfl (lv_at hl 1 rfl) ?_
  obtain ⟨o1, h2, hf⟩ := gw_bind hf
  refine gw_Vi (As := [.int x1]) (mc' := 0) (ms' := 0) F hW (mXX5_entryAt_7 h2) (cwV 1 hts (gT_V q_2_191 q_2_184 q_2_185 q_1_7 q_2_186) rfl rfl rfl hdX5_entryAt ⟨Nat.le_of_ble_eq_true rfl, Nat.le_of_ble_eq_true rfl⟩) 7 5 (aX_7 K σ) rfl rfl hl.1 rfl (Nat.le_of_ble_eq_true rfl) dX5_drop_2 ⟨Nat.le_of_ble_eq_true rfl, Nat.le_of_ble_eq_true rfl⟩ rfl rfl (fun H locs hW => ?_)
  refine lv_istore_n (lv' := [(2, .int o1.1), (0, .ref (ka K 7)), (1, .int x1)]) hx hb dX5_drop_5 rfl hl (by decide) rfl (fun ls hl => ?_)
  refine lv_iload_n hx hb dX5_drop_6 rfl (lv_at hl 0 rfl) ?_
  refine lv_sipush (v := (1024 : Int32)) hx hb dX5_drop_7 (by decide) ?_
  refine lv_irem hx hb dX5_drop_10 (by decide) ?_
  refine lv_if_ne (tgt := 26) hx hb dX5_drop_11 (by decide) (fun c4 => ?_) (fun c4 => ?_)
  · replace hf := (if_neg c4).symm.trans hf
    refine lv_aload_n hx hb dX5_drop_26 rfl (lv_at hl 1 rfl) ?_
    refine lv_iload_n hx hb dX5_drop_27 rfl (lv_at hl 2 rfl) ?_
    refine lv_iconst (v := (1 : Int32)) hx hb dX5_drop_28 (by decide) ?_
    refine lv_isub hx hb dX5_drop_29 ?_
    obtain ⟨o5, h6, hf⟩ := gw_bind hf
    refine gw_Vi (As := [.int (x1 - (1 : Int32))]) (mc' := 0) (ms' := 0) F hW (mXX5_lengthOf_7 h6) (cwV 1 hts (gT_V q_5_204 q_2_188 q_2_189 q_1_7 q_2_190) rfl rfl rfl hdX5_lengthOf ⟨Nat.le_of_ble_eq_true rfl, Nat.le_of_ble_eq_true rfl⟩) 7 5 (aX_7 K o1.2) rfl rfl hl.1 rfl (Nat.le_of_ble_eq_true rfl) dX5_drop_30 ⟨Nat.le_of_ble_eq_true rfl, Nat.le_of_ble_eq_true rfl⟩ rfl rfl (fun H locs hW => ?_)
    refine lv_aload_n hx hb dX5_drop_33 rfl (lv_at hl 1 rfl) ?_
    refine lv_iload_n hx hb dX5_drop_34 rfl (lv_at hl 2 rfl) ?_
    obtain ⟨o8, h9, hf⟩ := gw_bind hf
    refine gw_Vi (As := [.int x1]) (mc' := 0) (ms' := 0) F hW (mXX5_lengthOf_7 h9) (cwV 1 hts (gT_V q_5_204 q_2_188 q_2_189 q_1_7 q_2_190) rfl rfl rfl hdX5_lengthOf ⟨Nat.le_of_ble_eq_true rfl, Nat.le_of_ble_eq_true rfl⟩) 7 5 (aX_7 K o5.2) rfl rfl hl.1 rfl (Nat.le_of_ble_eq_true rfl) dX5_drop_35 ⟨Nat.le_of_ble_eq_true rfl, Nat.le_of_ble_eq_true rfl⟩ rfl rfl (fun H locs hW => ?_)
    refine lv_iadd hx hb dX5_drop_38 ?_
    refine lv_istore_n (lv' := [(3, .int (o5.1 + o8.1)), (2, .int o1.1), (0, .ref (ka K 7)), (1, .int x1)]) hx hb dX5_drop_39 rfl hl (by decide) rfl (fun ls hl => ?_)
    refine lv_aload_n hx hb dX5_drop_40 rfl (lv_at hl 2 rfl) ?_
    refine gw_get (v := .ref (ka K 1)) F inc_X5 hW 7 5 0 (aX_7 K o8.2) rfl (by decide) (hG _ q_1_124) (fun _ h9 => h9) rfl dX5_drop_41 ?_
    refine lv_aload_n hx hb dX5_drop_44 rfl (lv_at hl 2 rfl) ?_
    refine lv_iload_n hx hb dX5_drop_45 rfl (lv_at hl 3 rfl) ?_
    refine lv_iconst (v := (1 : Int32)) hx hb dX5_drop_46 (by decide) ?_
    refine lv_isub hx hb dX5_drop_47 ?_
    obtain ⟨o11, h12, hf⟩ := gw_bind hf
    refine gw_Vi (As := [.int (x1 - (1 : Int32))]) (mc' := 0) (ms' := 0) F hW (mXX5_entryAt_7 h12) (cwV 1 hts (gT_V q_2_191 q_2_184 q_2_185 q_1_7 q_2_186) rfl rfl rfl hdX5_entryAt ⟨Nat.le_of_ble_eq_true rfl, Nat.le_of_ble_eq_true rfl⟩) 7 5 (aX_7 K o8.2) rfl rfl hl.1 rfl (Nat.le_of_ble_eq_true rfl) dX5_drop_48 ⟨Nat.le_of_ble_eq_true rfl, Nat.le_of_ble_eq_true rfl⟩ rfl rfl (fun H locs hW => ?_)
    refine lv_iconst (v := (4 : Int32)) hx hb dX5_drop_51 (by decide) ?_
    refine lv_iadd hx hb dX5_drop_52 ?_
    refine lv_iload_n hx hb dX5_drop_53 rfl (lv_at hl 0 rfl) ?_
    obtain ⟨o14, h15, hf⟩ := gw_bind hf
    refine gw_Vv (As := [.int (o11.1 + (4 : Int32)), .int (o5.1 + o8.1)]) (mc' := 0) (ms' := 0) F hW (mXX1_put2_1 h15) (cwV 2 hts (gT_V q_5_56 q_4_160 q_4_161 q_1_3 q_4_162) rfl rfl rfl hdX1_put2 ⟨Nat.le_of_ble_eq_true rfl, Nat.le_of_ble_eq_true rfl⟩) 1 1 (aX_1 K o11.2) rfl rfl hl.1 rfl (Nat.le_of_ble_eq_true rfl) dX5_drop_54 ⟨Nat.le_of_ble_eq_true rfl, Nat.le_of_ble_eq_true rfl⟩ rfl rfl (fun H locs hW => ?_)
    exact gw_retv F hW hf dX5_drop_57
  · replace hf := (if_pos c4).symm.trans hf
    refine lv_aload_n hx hb dX5_drop_14 rfl (lv_at hl 1 rfl) ?_
    refine gw_get (v := .ref (ka K 1)) F inc_X5 hW 7 5 0 (aX_7 K o1.2) rfl (by decide) (hG _ q_1_124) (fun _ h9 => h9) rfl dX5_drop_15 ?_
    refine lv_iload_n hx hb dX5_drop_18 rfl (lv_at hl 0 rfl) ?_
    refine lv_iconst (v := (0 : Int32)) hx hb dX5_drop_19 (by decide) ?_
    obtain ⟨o17, h18, hf⟩ := gw_bind hf
    refine gw_Vv (As := [.int o1.1, .int (0 : Int32)]) (mc' := 0) (ms' := 0) F hW (mXX1_put4_1 h18) (cwV 2 hts (gT_V q_5_55 q_4_156 q_4_157 q_1_3 q_4_158) rfl rfl rfl hdX1_put4 ⟨Nat.le_of_ble_eq_true rfl, Nat.le_of_ble_eq_true rfl⟩) 1 1 (aX_1 K o1.2) rfl rfl hl.1 rfl (Nat.le_of_ble_eq_true rfl) dX5_drop_20 ⟨Nat.le_of_ble_eq_true rfl, Nat.le_of_ble_eq_true rfl⟩ rfl rfl (fun H locs hW => ?_)
    refine lv_goto (tgt := 57) hx hb dX5_drop_23 (by decide) ?_
    exact gw_retv F hW hf dX5_drop_57
set_option maxHeartbeats 4000000 in
set_option maxRecDepth 100000 in
theorem mXX5_drop_7 {l : Launch} {K : KX} {σ : XS} {x1 : Int32} {o : XS} (hf : fXX5_drop_7 (kn K) x1 σ = some o) : gw_Mv l (kD K) vwCl (tyX K) (wX K) yX5_drop wsX5_drop rXX5_drop_7 [.ref (ka K 7), .int x1] σ o := by
  intro sz
  refine gw_body (cc := cX5_drop) (maxL := 4) (yret := none) (by decide +kernel) rfl ?_ (Nat.le_of_ble_eq_true rfl)
  intro p e s m below meth c F hsz hW ls hl
  exact wXX5_drop_7_0 F x1 σ o hf s.heap [] ls hl hW
abbrev rXX4_erase_6 : Room := { frames := 3, cells := 0, slots := 0, locals := 69 }
set_option maxHeartbeats 4000000 in
set_option maxRecDepth 100000 in
theorem wXX4_erase_6_0 {p : Program} {l : Launch} {e : Env} {s : State} {m : MethodId} {args : Array Value} {below : List Frame} {meth : Method} {c : Code} {A : Nat → Prop} {K : KX} (F : fx_ p s m args meth c cX4_erase 3 none RX4 wsX4_erase) (x1 : Int32) (σ : XS) (o : XS) (hf : fXX4_erase_6_0 (kn K) x1 σ = some o) (H : Heap) (locs : List Loc) (ls : Array Slot) (hl : lv_has ls 3 [(0, .ref (ka K 6)), (1, .int x1)]) (hW : gw_ (kD K) vwCl (tyX K) (wX K) A s σ H locs) : W p l e rXX4_erase_6 s m args below meth c H locs 0 0 (MQ below (gw_Qv (kD K) vwCl (tyX K) (wX K) A o) args s rXX4_erase_6.cells rXX4_erase_6.slots A) (F0 m 0 ls []) := by
  have hx := F.1
  have hb := F.2.1
  have hml := F.2.2.2.1
  have hown := F.2.2.2.2.1
  have hts := F.2.2.2.2.2.1
  have hG : ∀ x ∈ gT, x.before args s = true := fun x h => hts x (List.mem_cons_of_mem _ h)
  unfold fXX4_erase_6_0 at hf
  refine lv_aload_n hx hb dX4_erase_0 rfl (lv_at hl 0 rfl) ?_
  refine gw_get (v := .ref (ka K 3)) F inc_X4 hW 6 4 1 (aX_6 K σ) rfl (by decide) (hG _ q_1_109) (fun _ h9 => h9) rfl dX4_erase_1 ?_
  refine lv_iload_n hx hb dX4_erase_4 rfl (lv_at hl 1 rfl) ?_
  obtain ⟨o1, h2, hf⟩ := gw_bind hf
  refine gw_Vi (As := [.int x1]) (mc' := 0) (ms' := 0) F hW (mXX2_inodeAt_3 h2) (cwV 1 hts (gT_V q_2_147 q_2_101 q_2_102 q_1_4 q_2_103) rfl rfl rfl hdX2_inodeAt ⟨Nat.le_of_ble_eq_true rfl, Nat.le_of_ble_eq_true rfl⟩) 3 2 (aX_3 K σ) rfl rfl hl.1 rfl (Nat.le_of_ble_eq_true rfl) dX4_erase_5 ⟨Nat.le_of_ble_eq_true rfl, Nat.le_of_ble_eq_true rfl⟩ rfl rfl (fun H locs hW => ?_)
  refine lv_istore_n (lv' := [(2, .int o1.1), (0, .ref (ka K 6)), (1, .int x1)]) hx hb dX4_erase_8 rfl hl (by decide) rfl (fun ls hl => ?_)
  refine lv_aload_n hx hb dX4_erase_9 rfl (lv_at hl 1 rfl) ?_
  refine gw_get (v := .ref (ka K 1)) F inc_X4 hW 6 4 0 (aX_6 K o1.2) rfl (by decide) (hG _ q_1_108) (fun _ h9 => h9) rfl dX4_erase_10 ?_
  refine lv_iload_n hx hb dX4_erase_13 rfl (lv_at hl 0 rfl) ?_
  refine lv_iload_n hx hb dX4_erase_14 rfl (lv_at hl 0 rfl) ?_
  refine lv_sipush (v := (128 : Int32)) hx hb dX4_erase_15 (by decide) ?_
  refine lv_iadd hx hb dX4_erase_18 ?_
  refine lv_iconst (v := (0 : Int32)) hx hb dX4_erase_19 (by decide) ?_
  obtain ⟨o4, h5, hf⟩ := gw_bind hf
  refine gw_Vv (As := [.int o1.1, .int (o1.1 + (128 : Int32)), .int (0 : Int32)]) (mc' := 0) (ms' := 0) F hW (mXX1_fill_1 h5) (cwV 3 hts (gT_V q_5_37 q_3_42 q_3_43 q_1_3 q_3_44) rfl rfl rfl hdX1_fill ⟨Nat.le_of_ble_eq_true rfl, Nat.le_of_ble_eq_true rfl⟩) 1 1 (aX_1 K o1.2) rfl rfl hl.1 rfl (Nat.le_of_ble_eq_true rfl) dX4_erase_20 ⟨Nat.le_of_ble_eq_true rfl, Nat.le_of_ble_eq_true rfl⟩ rfl rfl (fun H locs hW => ?_)
  exact gw_retv F hW hf dX4_erase_23
set_option maxHeartbeats 4000000 in
set_option maxRecDepth 100000 in
theorem mXX4_erase_6 {l : Launch} {K : KX} {σ : XS} {x1 : Int32} {o : XS} (hf : fXX4_erase_6 (kn K) x1 σ = some o) : gw_Mv l (kD K) vwCl (tyX K) (wX K) yX4_erase wsX4_erase rXX4_erase_6 [.ref (ka K 6), .int x1] σ o := by
  intro sz
  refine gw_body (cc := cX4_erase) (maxL := 3) (yret := none) (by decide +kernel) rfl ?_ (Nat.le_of_ble_eq_true rfl)
  intro p e s m below meth c F hsz hW ls hl
  exact wXX4_erase_6_0 F x1 σ o hf s.heap [] ls hl hW
abbrev rXX3_giveBack_5 : Room := { frames := 2, cells := 0, slots := 0, locals := 52 }
set_option maxHeartbeats 4000000 in
set_option maxRecDepth 100000 in
theorem wXX3_giveBack_5_0 {p : Program} {l : Launch} {e : Env} {s : State} {m : MethodId} {args : Array Value} {below : List Frame} {meth : Method} {c : Code} {A : Nat → Prop} {K : KX} (F : fx_ p s m args meth c cX3_giveBack 2 none RX3 wsX3_giveBack) (x1 : Int32) (σ : XS) (o : XS) (hf : fXX3_giveBack_5_0 (kn K) x1 σ = some o) (H : Heap) (locs : List Loc) (ls : Array Slot) (hl : lv_has ls 2 [(0, .ref (ka K 5)), (1, .int x1)]) (hW : gw_ (kD K) vwCl (tyX K) (wX K) A s σ H locs) : W p l e rXX3_giveBack_5 s m args below meth c H locs 0 0 (MQ below (gw_Qv (kD K) vwCl (tyX K) (wX K) A o) args s rXX3_giveBack_5.cells rXX3_giveBack_5.slots A) (F0 m 0 ls []) := by
  have hx := F.1
  have hb := F.2.1
  have hml := F.2.2.2.1
  have hown := F.2.2.2.2.1
  have hts := F.2.2.2.2.2.1
  have hG : ∀ x ∈ gT, x.before args s = true := fun x h => hts x (List.mem_cons_of_mem _ h)
  unfold fXX3_giveBack_5_0 at hf
  refine lv_iload_n hx hb dX3_giveBack_0 rfl (lv_at hl 1 rfl) ?_
  refine lv_iconst (v := (1 : Int32)) hx hb dX3_giveBack_1 (by decide) ?_
  refine lv_icmp_lt (tgt := 19) hx hb dX3_giveBack_2 (by decide) (fun c1 => ?_) (fun c1 => ?_)
  · replace hf := (if_pos c1).symm.trans hf
    exact gw_retv F hW hf dX3_giveBack_19
  · replace hf := (if_neg c1).symm.trans hf
    refine lv_aload_n hx hb dX3_giveBack_5 rfl (lv_at hl 0 rfl) ?_
    refine lv_iload_n hx hb dX3_giveBack_6 rfl (lv_at hl 1 rfl) ?_
    obtain ⟨o2, h3, hf⟩ := gw_bind hf
    refine gw_Vz (As := [.int x1]) (mc' := 0) (ms' := 0) F hW (mXX3_isUsed_5 h3) (cwV 1 hts (gT_V q_6_75 q_2_48 q_2_49 q_1_5 q_2_50) rfl rfl rfl hdX3_isUsed ⟨Nat.le_of_ble_eq_true rfl, Nat.le_of_ble_eq_true rfl⟩) 5 3 (aX_5 K σ) rfl rfl hl.1 rfl (Nat.le_of_ble_eq_true rfl) dX3_giveBack_7 ⟨Nat.le_of_ble_eq_true rfl, Nat.le_of_ble_eq_true rfl⟩ rfl rfl (fun H locs z4 hW => ?_)
    refine lv_if_eq (tgt := 19) hx hb dX3_giveBack_10 (by decide) (fun c5 => ?_) (fun c5 => ?_)
    · replace hf := (if_pos c5).symm.trans hf
      exact gw_retv F hW hf dX3_giveBack_19
    · replace hf := (if_neg c5).symm.trans hf
      refine lv_aload_n hx hb dX3_giveBack_13 rfl (lv_at hl 0 rfl) ?_
      refine lv_iload_n hx hb dX3_giveBack_14 rfl (lv_at hl 1 rfl) ?_
      refine lv_iconst (v := (0 : Int32)) hx hb dX3_giveBack_15 (by decide) ?_
      obtain ⟨o6, h7, hf⟩ := gw_bind hf
      refine gw_Vv (As := [.int x1, .int (0 : Int32)]) (mc' := 0) (ms' := 0) F hW (mXX3_mark_5 h7) (cwV 2 hts (gT_V q_5_0 q_5_2 qp_23 q_1_5 q_5_3) rfl rfl rfl hdX3_mark ⟨Nat.le_of_ble_eq_true rfl, Nat.le_of_ble_eq_true rfl⟩) 5 3 (aX_5 K o2.2) rfl rfl hl.1 rfl (Nat.le_of_ble_eq_true rfl) dX3_giveBack_16 ⟨Nat.le_of_ble_eq_true rfl, Nat.le_of_ble_eq_true rfl⟩ rfl rfl (fun H locs hW => ?_)
      exact gw_retv F hW hf dX3_giveBack_19
set_option maxHeartbeats 4000000 in
set_option maxRecDepth 100000 in
theorem mXX3_giveBack_5 {l : Launch} {K : KX} {σ : XS} {x1 : Int32} {o : XS} (hf : fXX3_giveBack_5 (kn K) x1 σ = some o) : gw_Mv l (kD K) vwCl (tyX K) (wX K) yX3_giveBack wsX3_giveBack rXX3_giveBack_5 [.ref (ka K 5), .int x1] σ o := by
  intro sz
  refine gw_body (cc := cX3_giveBack) (maxL := 2) (yret := none) (by decide +kernel) rfl ?_ (Nat.le_of_ble_eq_true rfl)
  intro p e s m below meth c F hsz hW ls hl
  exact wXX3_giveBack_5_0 F x1 σ o hf s.heap [] ls hl hW
abbrev rXX4_setTime_6 : Room := { frames := 1, cells := 0, slots := 0, locals := 22 }
set_option maxHeartbeats 4000000 in
set_option maxRecDepth 100000 in
theorem wXX4_setTime_6_0 {p : Program} {l : Launch} {e : Env} {s : State} {m : MethodId} {args : Array Value} {below : List Frame} {meth : Method} {c : Code} {A : Nat → Prop} {K : KX} (F : fx_ p s m args meth c cX4_setTime 5 none RX4 wsX4_setTime) (x1 : Int32) (x2 : Int32) (x3 : Int64) (σ : XS) (o : XS) (hf : fXX4_setTime_6_0 (kn K) x1 x2 x3 σ = some o) (H : Heap) (locs : List Loc) (ls : Array Slot) (hl : lv_has ls 5 [(0, .ref (ka K 6)), (1, .int x1), (2, .int x2), (3, .long x3)]) (hW : gw_ (kD K) vwCl (tyX K) (wX K) A s σ H locs) : W p l e rXX4_setTime_6 s m args below meth c H locs 0 0 (MQ below (gw_Qv (kD K) vwCl (tyX K) (wX K) A o) args s rXX4_setTime_6.cells rXX4_setTime_6.slots A) (F0 m 0 ls []) := by
  have hx := F.1
  have hb := F.2.1
  have hml := F.2.2.2.1
  have hown := F.2.2.2.2.1
  have hts := F.2.2.2.2.2.1
  have hG : ∀ x ∈ gT, x.before args s = true := fun x h => hts x (List.mem_cons_of_mem _ h)
  unfold fXX4_setTime_6_0 at hf
  refine lv_aload_n hx hb dX4_setTime_0 rfl (lv_at hl 0 rfl) ?_
  refine gw_get (v := .ref (ka K 1)) F inc_X4 hW 6 4 0 (aX_6 K σ) rfl (by decide) (hG _ q_1_108) (fun _ h9 => h9) rfl dX4_setTime_1 ?_
  refine lv_aload_n hx hb dX4_setTime_4 rfl (lv_at hl 0 rfl) ?_
  refine gw_get (v := .ref (ka K 3)) F inc_X4 hW 6 4 1 (aX_6 K σ) rfl (by decide) (hG _ q_1_109) (fun _ h9 => h9) rfl dX4_setTime_5 ?_
  refine lv_iload_n hx hb dX4_setTime_8 rfl (lv_at hl 1 rfl) ?_
  obtain ⟨o1, h2, hf⟩ := gw_bind hf
  refine gw_Vi (As := [.int x1]) (mc' := 0) (ms' := 0) F hW (mXX2_inodeAt_3 h2) (cwV 1 hts (gT_V q_2_147 q_2_101 q_2_102 q_1_4 q_2_103) rfl rfl rfl hdX2_inodeAt ⟨Nat.le_of_ble_eq_true rfl, Nat.le_of_ble_eq_true rfl⟩) 3 2 (aX_3 K σ) rfl rfl hl.1 rfl (Nat.le_of_ble_eq_true rfl) dX4_setTime_9 ⟨Nat.le_of_ble_eq_true rfl, Nat.le_of_ble_eq_true rfl⟩ rfl rfl (fun H locs hW => ?_)
  refine lv_bipush (v := (8 : Int32)) hx hb dX4_setTime_12 (by decide) ?_
  refine lv_iadd hx hb dX4_setTime_14 ?_
  refine lv_iconst (v := (4 : Int32)) hx hb dX4_setTime_15 (by decide) ?_
  refine lv_iload_n hx hb dX4_setTime_16 rfl (lv_at hl 2 rfl) ?_
  refine lv_imul hx hb dX4_setTime_17 ?_
  refine lv_iadd hx hb dX4_setTime_18 ?_
  refine lv_lload_n hx hb dX4_setTime_19 rfl (lv_at hl 3 rfl) ?_
  refine lv_l2i (v := x3.toInt32) hx hb dX4_setTime_20 rfl ?_
  obtain ⟨o4, h5, hf⟩ := gw_bind hf
  refine gw_Vv (As := [.int ((o1.1 + (8 : Int32)) + ((4 : Int32) * x2)), .int x3.toInt32]) (mc' := 0) (ms' := 0) F hW (mXX1_put4_1 h5) (cwV 2 hts (gT_V q_5_38 q_4_156 q_4_157 q_1_3 q_4_158) rfl rfl rfl hdX1_put4 ⟨Nat.le_of_ble_eq_true rfl, Nat.le_of_ble_eq_true rfl⟩) 1 1 (aX_1 K o1.2) rfl rfl hl.1 rfl (Nat.le_of_ble_eq_true rfl) dX4_setTime_21 ⟨Nat.le_of_ble_eq_true rfl, Nat.le_of_ble_eq_true rfl⟩ rfl rfl (fun H locs hW => ?_)
  exact gw_retv F hW hf dX4_setTime_24
set_option maxHeartbeats 4000000 in
set_option maxRecDepth 100000 in
theorem mXX4_setTime_6 {l : Launch} {K : KX} {σ : XS} {x1 : Int32} {x2 : Int32} {x3 : Int64} {o : XS} (hf : fXX4_setTime_6 (kn K) x1 x2 x3 σ = some o) : gw_Mv l (kD K) vwCl (tyX K) (wX K) yX4_setTime wsX4_setTime rXX4_setTime_6 [.ref (ka K 6), .int x1, .int x2, .long x3] σ o := by
  intro sz
  refine gw_body (cc := cX4_setTime) (maxL := 5) (yret := none) (by decide +kernel) rfl ?_ (Nat.le_of_ble_eq_true rfl)
  intro p e s m below meth c F hsz hW ls hl
  exact wXX4_setTime_6_0 F x1 x2 x3 σ o hf s.heap [] ls hl hW
