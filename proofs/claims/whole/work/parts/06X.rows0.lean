abbrev rXX8_prepare_16 : Room := { frames := 0, cells := 0, slots := 0, locals := 0 }
def PXX8_prepare_16_2 (p : Program) (l : Launch) (e : Env) (s : State) (m : MethodId) (args : Array Value) (below : List Frame) (meth : Method) (c : Code) (A : Nat → Prop) (K : KX) (t : (Int32 × Int32 × Int32 × XS)) (o : XS) : Prop := ∀ (H : Heap) (locs : List Loc) (ls : Array Slot), lv_has ls 5 [(0, .ref (ka K 16)), (1, .int t.1), (2, .int t.2.1), (3, .int t.2.2.1)] → gw_ (kD K) vwCl (tyX K) (wX K) A s t.2.2.2 H locs → W p l e rXX8_prepare_16 s m args below meth c H locs 0 0 (MQ below (gw_Qv (kD K) vwCl (tyX K) (wX K) A o) args s rXX8_prepare_16.cells rXX8_prepare_16.slots A) (F0 m 2 ls [])
set_option maxHeartbeats 4000000 in
set_option maxRecDepth 100000 in
theorem wXX8_prepare_16_46 {p : Program} {l : Launch} {e : Env} {s : State} {m : MethodId} {args : Array Value} {below : List Frame} {meth : Method} {c : Code} {A : Nat → Prop} {K : KX} (F : fx_ p s m args meth c cX8_prepare 5 none RX8 wsX8_prepare) {k2 : (Int32 × Int32 × Int32 × XS) → Option XS} (hk2 : ∀ t o, k2 t = some o → PXX8_prepare_16_2 p l e s m args below meth c A K t o) (x1 : Int32) (x2 : Int32) (x3 : Int32) (σ : XS) (o : XS) (hf : fXX8_prepare_16_46 (kn K) k2 x1 x2 x3 σ = some o) (H : Heap) (locs : List Loc) (ls : Array Slot) (hl : lv_has ls 5 [(0, .ref (ka K 16)), (1, .int x1), (2, .int x2), (3, .int x3)]) (hW : gw_ (kD K) vwCl (tyX K) (wX K) A s σ H locs) : W p l e rXX8_prepare_16 s m args below meth c H locs 0 0 (MQ below (gw_Qv (kD K) vwCl (tyX K) (wX K) A o) args s rXX8_prepare_16.cells rXX8_prepare_16.slots A) (F0 m 46 ls []) := by
  have hx := F.1
  have hb := F.2.1
  have hml := F.2.2.2.1
  have hown := F.2.2.2.2.1
  have hts := F.2.2.2.2.2.1
  have hG : ∀ x ∈ gT, x.before args s = true := fun x h => hts x (List.mem_cons_of_mem _ h)
  unfold fXX8_prepare_16_46 at hf
  refine lv_iinc (v := (x3 + (1 : Int32))) (lv' := [(3, .int (x3 + (1 : Int32))), (0, .ref (ka K 16)), (1, .int x1), (2, .int x2)]) hx hb dX8_prepare_46 hl (k := 3) rfl rfl (by decide) rfl (fun ls hl => ?_)
  refine lv_goto (tgt := 2) hx hb dX8_prepare_49 (by decide) ?_
  exact hk2 _ _ hf _ _ _ (lv_sub hl [1, 2, 3, 0] rfl) hW
set_option maxHeartbeats 4000000 in
set_option maxRecDepth 100000 in
theorem wXX8_prepare_16_2 {p : Program} {l : Launch} {e : Env} {s : State} {m : MethodId} {args : Array Value} {below : List Frame} {meth : Method} {c : Code} {A : Nat → Prop} {K : KX} (F : fx_ p s m args meth c cX8_prepare 5 none RX8 wsX8_prepare) {k2 : (Int32 × Int32 × Int32 × XS) → Option XS} (hk2 : ∀ t o, k2 t = some o → PXX8_prepare_16_2 p l e s m args below meth c A K t o) (x1 : Int32) (x2 : Int32) (x3 : Int32) (σ : XS) (o : XS) (hf : fXX8_prepare_16_2 (kn K) k2 x1 x2 x3 σ = some o) (H : Heap) (locs : List Loc) (ls : Array Slot) (hl : lv_has ls 5 [(0, .ref (ka K 16)), (1, .int x1), (2, .int x2), (3, .int x3)]) (hW : gw_ (kD K) vwCl (tyX K) (wX K) A s σ H locs) : W p l e rXX8_prepare_16 s m args below meth c H locs 0 0 (MQ below (gw_Qv (kD K) vwCl (tyX K) (wX K) A o) args s rXX8_prepare_16.cells rXX8_prepare_16.slots A) (F0 m 2 ls []) := by
  have hx := F.1
  have hb := F.2.1
  have hml := F.2.2.2.1
  have hown := F.2.2.2.2.1
  have hts := F.2.2.2.2.2.1
  have hG : ∀ x ∈ gT, x.before args s = true := fun x h => hts x (List.mem_cons_of_mem _ h)
  unfold fXX8_prepare_16_2 at hf
  refine lv_iload_n hx hb dX8_prepare_2 rfl (lv_at hl 3 rfl) ?_
  refine lv_iconst (v := (4 : Int32)) hx hb dX8_prepare_3 (by decide) ?_
  refine lv_icmp_ge (tgt := 52) hx hb dX8_prepare_4 (by decide) (fun c1 => ?_) (fun c1 => ?_)
  · replace hf := (if_pos c1).symm.trans hf
    exact gw_retv F hW hf dX8_prepare_52
  · replace hf := (if_neg c1).symm.trans hf
    refine lv_iconst (v := (4 : Int32)) hx hb dX8_prepare_7 (by decide) ?_
    refine lv_iload_n hx hb dX8_prepare_8 rfl (lv_at hl 1 rfl) ?_
    refine lv_imul hx hb dX8_prepare_9 ?_
    refine lv_iload_n hx hb dX8_prepare_10 rfl (lv_at hl 3 rfl) ?_
    refine lv_iadd hx hb dX8_prepare_11 ?_
    refine lv_istore (lv' := [(4, .int (((4 : Int32) * x1) + x3)), (0, .ref (ka K 16)), (1, .int x1), (2, .int x2), (3, .int x3)]) hx hb dX8_prepare_12 hl (by decide) rfl (fun ls hl => ?_)
    refine lv_iload hx hb dX8_prepare_14 (lv_at hl 0 rfl) ?_
    refine lv_if_lt (tgt := 46) hx hb dX8_prepare_16 (by decide) (fun c2 => ?_) (fun c2 => ?_)
    · replace hf := (if_pos c2).symm.trans hf
      exact wXX8_prepare_16_46 F hk2 x1 x2 x3 _ _ hf _ _ _ (lv_sub hl [1, 2, 3, 4] rfl) hW
    · replace hf := (if_neg c2).symm.trans hf
      refine lv_iload hx hb dX8_prepare_19 (lv_at hl 0 rfl) ?_
      refine lv_aload_n hx hb dX8_prepare_21 rfl (lv_at hl 1 rfl) ?_
      refine gw_get (v := .ref (ka K 18)) F inc_X8 hW 16 8 1 (aX_16 K σ) rfl (by decide) (hG _ q_1_214) (fun _ h9 => h9) rfl dX8_prepare_22 ?_
      refine gw_alen F hW 18 7 (aX_18 K σ) rfl dX8_prepare_25 ?_
      refine lv_icmp_ge (tgt := 46) hx hb dX8_prepare_26 (by decide) (fun c3 => ?_) (fun c3 => ?_)
      · replace hf := (if_pos c3).symm.trans hf
        exact wXX8_prepare_16_46 F hk2 x1 x2 x3 _ _ hf _ _ _ (lv_sub hl [1, 2, 3, 4] rfl) hW
      · replace hf := (if_neg c3).symm.trans hf
        refine lv_aload_n hx hb dX8_prepare_29 rfl (lv_at hl 1 rfl) ?_
        refine gw_get (v := .ref (ka K 18)) F inc_X8 hW 16 8 1 (aX_16 K σ) rfl (by decide) (hG _ q_1_214) (fun _ h9 => h9) rfl dX8_prepare_30 ?_
        refine lv_iload hx hb dX8_prepare_33 (lv_at hl 0 rfl) ?_
        refine lv_iload_n hx hb dX8_prepare_35 rfl (lv_at hl 3 rfl) ?_
        refine lv_bipush (v := (24 : Int32)) hx hb dX8_prepare_36 (by decide) ?_
        refine lv_bipush (v := (8 : Int32)) hx hb dX8_prepare_38 (by decide) ?_
        refine lv_iload_n hx hb dX8_prepare_40 rfl (lv_at hl 4 rfl) ?_
        refine lv_imul hx hb dX8_prepare_41 ?_
        refine lv_isub hx hb dX8_prepare_42 ?_
        refine lv_ishr hx hb dX8_prepare_43 ?_
        refine lv_i2b (v := (x2 >>> (((24 : Int32) - ((8 : Int32) * x3)) &&& 31)).toInt8.toInt32) hx hb dX8_prepare_44 rfl ?_
        rcases Decidable.em ((((4 : Int32) * x1) + x3) < 0 ∨ 20 ≤ (((4 : Int32) * x1) + x3).toNatClampNeg) with c4 | c4
        · replace hf := (if_pos c4).symm.trans hf
          exact absurd hf (by simp)
        · replace hf := (if_neg c4).symm.trans hf
          refine gw_bast (σ' := (stA σ 7 (((4 : Int32) * x1) + x3).toNatClampNeg (vp_nar .byte ((x2 >>> (((24 : Int32) - ((8 : Int32) * x3)) &&& 31)).toInt8.toInt32)))) F hW 18 7 (aX_18 K σ) rfl c4 dX8_prepare_45 (sAX_7 _ _ _) (fun H locs hW => ?_)
          exact wXX8_prepare_16_46 F hk2 x1 x2 x3 _ _ hf _ _ _ (lv_sub hl [1, 2, 3, 4] rfl) hW
set_option maxHeartbeats 4000000 in
set_option maxRecDepth 100000 in
theorem wXX8_prepare_16_0 {p : Program} {l : Launch} {e : Env} {s : State} {m : MethodId} {args : Array Value} {below : List Frame} {meth : Method} {c : Code} {A : Nat → Prop} {K : KX} (F : fx_ p s m args meth c cX8_prepare 5 none RX8 wsX8_prepare) (x1 : Int32) (x2 : Int32) (σ : XS) (o : XS) (hf : fXX8_prepare_16_0 (kn K) x1 x2 σ = some o) (H : Heap) (locs : List Loc) (ls : Array Slot) (hl : lv_has ls 5 [(0, .ref (ka K 16)), (1, .int x1), (2, .int x2)]) (hW : gw_ (kD K) vwCl (tyX K) (wX K) A s σ H locs) : W p l e rXX8_prepare_16 s m args below meth c H locs 0 0 (MQ below (gw_Qv (kD K) vwCl (tyX K) (wX K) A o) args s rXX8_prepare_16.cells rXX8_prepare_16.slots A) (F0 m 0 ls []) := by
  have hx := F.1
  have hb := F.2.1
  have hml := F.2.2.2.1
  have hown := F.2.2.2.2.1
  have hts := F.2.2.2.2.2.1
  have hG : ∀ x ∈ gT, x.before args s = true := fun x h => hts x (List.mem_cons_of_mem _ h)
  unfold fXX8_prepare_16_0 at hf
  refine lv_iconst (v := (0 : Int32)) hx hb dX8_prepare_0 (by decide) ?_
  refine lv_istore_n (lv' := [(3, .int (0 : Int32)), (0, .ref (ka K 16)), (1, .int x1), (2, .int x2)]) hx hb dX8_prepare_1 rfl hl (by decide) rfl (fun ls hl => ?_)
  exact lfix_ind (P := PXX8_prepare_16_2 p l e s m args below meth c A K) (fun k2 hk2 t o hf => wXX8_prepare_16_2 F hk2 t.1 t.2.1 t.2.2.1 t.2.2.2 o hf) FU _ _ hf _ _ _ (lv_sub hl [1, 2, 3, 0] rfl) hW
set_option maxHeartbeats 4000000 in
set_option maxRecDepth 100000 in
theorem mXX8_prepare_16 {l : Launch} {K : KX} {σ : XS} {x1 : Int32} {x2 : Int32} {o : XS} (hf : fXX8_prepare_16 (kn K) x1 x2 σ = some o) : gw_Mv l (kD K) vwCl (tyX K) (wX K) yX8_prepare wsX8_prepare rXX8_prepare_16 [.ref (ka K 16), .int x1, .int x2] σ o := by
  intro sz
  refine gw_body (cc := cX8_prepare) (maxL := 5) (yret := none) (by decide +kernel) rfl ?_ (Nat.le_of_ble_eq_true rfl)
  intro p e s m below meth c F hsz hW ls hl
  exact wXX8_prepare_16_0 F x1 x2 σ o hf s.heap [] ls hl hW
abbrev rXX0_feed_0 : Room := { frames := 1, cells := 0, slots := 0, locals := 24 }
set_option maxHeartbeats 4000000 in
set_option maxRecDepth 100000 in
theorem wXX0_feed_0_0 {p : Program} {l : Launch} {e : Env} {s : State} {m : MethodId} {args : Array Value} {below : List Frame} {meth : Method} {c : Code} {A : Nat → Prop} {K : KX} (F : fx_ p s m args meth c cX0_feed 6 none RX0 wsX0_feed) (x1 : Int32) (x2 : Int32) (x3 : Int32) (x4 : Int32) (x5 : Int32) (σ : XS) (o : XS) (hf : fXX0_feed_0_0 (kn K) x1 x2 x3 x4 x5 σ = some o) (H : Heap) (locs : List Loc) (ls : Array Slot) (hl : lv_has ls 6 [(0, .ref (ka K 0)), (1, .int x1), (2, .int x2), (3, .int x3), (4, .int x4), (5, .int x5)]) (hW : gw_ (kD K) vwCl (tyX K) (wX K) A s σ H locs) : W p l e rXX0_feed_0 s m args below meth c H locs 0 0 (MQ below (gw_Qv (kD K) vwCl (tyX K) (wX K) A o) args s rXX0_feed_0.cells rXX0_feed_0.slots A) (F0 m 0 ls []) := by
  have hx := F.1
  have hb := F.2.1
  have hml := F.2.2.2.1
  have hown := F.2.2.2.2.1
  have hts := F.2.2.2.2.2.1
  have hG : ∀ x ∈ gT, x.before args s = true := fun x h => hts x (List.mem_cons_of_mem _ h)
  unfold fXX0_feed_0_0 at hf
  refine lv_aload_n hx hb dX0_feed_0 rfl (lv_at hl 0 rfl) ?_
  refine gw_get (v := .ref (ka K 16)) F inc_X0 hW 0 0 8 (aX_0 K σ) rfl (by decide) (hG _ q_1_231) (fun _ h9 => h9) rfl dX0_feed_1 ?_
  refine lv_iconst (v := (0 : Int32)) hx hb dX0_feed_4 (by decide) ?_
  refine lv_iload_n hx hb dX0_feed_5 rfl (lv_at hl 1 rfl) ?_
  obtain ⟨o1, h2, hf⟩ := gw_bind hf
  refine gw_Vv (As := [.int (0 : Int32), .int x1]) (mc' := 0) (ms' := 0) F hW (mXX8_prepare_16 h2) (cwV 2 hts (gT_V q_2_21 q_2_22 q_2_23 q_1_11 q_2_24) rfl rfl rfl hdX8_prepare ⟨Nat.le_of_ble_eq_true rfl, Nat.le_of_ble_eq_true rfl⟩) 16 8 (aX_16 K σ) rfl rfl hl.1 rfl (Nat.le_of_ble_eq_true rfl) dX0_feed_6 ⟨Nat.le_of_ble_eq_true rfl, Nat.le_of_ble_eq_true rfl⟩ rfl rfl (fun H locs hW => ?_)
  refine lv_aload_n hx hb dX0_feed_9 rfl (lv_at hl 0 rfl) ?_
  refine gw_get (v := .ref (ka K 16)) F inc_X0 hW 0 0 8 (aX_0 K o1) rfl (by decide) (hG _ q_1_231) (fun _ h9 => h9) rfl dX0_feed_10 ?_
  refine lv_iconst (v := (1 : Int32)) hx hb dX0_feed_13 (by decide) ?_
  refine lv_iload_n hx hb dX0_feed_14 rfl (lv_at hl 2 rfl) ?_
  obtain ⟨o4, h5, hf⟩ := gw_bind hf
  refine gw_Vv (As := [.int (1 : Int32), .int x2]) (mc' := 0) (ms' := 0) F hW (mXX8_prepare_16 h5) (cwV 2 hts (gT_V q_2_21 q_2_22 q_2_23 q_1_11 q_2_24) rfl rfl rfl hdX8_prepare ⟨Nat.le_of_ble_eq_true rfl, Nat.le_of_ble_eq_true rfl⟩) 16 8 (aX_16 K o1) rfl rfl hl.1 rfl (Nat.le_of_ble_eq_true rfl) dX0_feed_15 ⟨Nat.le_of_ble_eq_true rfl, Nat.le_of_ble_eq_true rfl⟩ rfl rfl (fun H locs hW => ?_)
  refine lv_aload_n hx hb dX0_feed_18 rfl (lv_at hl 0 rfl) ?_
  refine gw_get (v := .ref (ka K 16)) F inc_X0 hW 0 0 8 (aX_0 K o4) rfl (by decide) (hG _ q_1_231) (fun _ h9 => h9) rfl dX0_feed_19 ?_
  refine lv_iconst (v := (2 : Int32)) hx hb dX0_feed_22 (by decide) ?_
  refine lv_iload_n hx hb dX0_feed_23 rfl (lv_at hl 3 rfl) ?_
  obtain ⟨o7, h8, hf⟩ := gw_bind hf
  refine gw_Vv (As := [.int (2 : Int32), .int x3]) (mc' := 0) (ms' := 0) F hW (mXX8_prepare_16 h8) (cwV 2 hts (gT_V q_2_21 q_2_22 q_2_23 q_1_11 q_2_24) rfl rfl rfl hdX8_prepare ⟨Nat.le_of_ble_eq_true rfl, Nat.le_of_ble_eq_true rfl⟩) 16 8 (aX_16 K o4) rfl rfl hl.1 rfl (Nat.le_of_ble_eq_true rfl) dX0_feed_24 ⟨Nat.le_of_ble_eq_true rfl, Nat.le_of_ble_eq_true rfl⟩ rfl rfl (fun H locs hW => ?_)
  refine lv_aload_n hx hb dX0_feed_27 rfl (lv_at hl 0 rfl) ?_
  refine gw_get (v := .ref (ka K 16)) F inc_X0 hW 0 0 8 (aX_0 K o7) rfl (by decide) (hG _ q_1_231) (fun _ h9 => h9) rfl dX0_feed_28 ?_
  refine lv_iconst (v := (3 : Int32)) hx hb dX0_feed_31 (by decide) ?_
  refine lv_iload hx hb dX0_feed_32 (lv_at hl 4 rfl) ?_
  obtain ⟨o10, h11, hf⟩ := gw_bind hf
  refine gw_Vv (As := [.int (3 : Int32), .int x4]) (mc' := 0) (ms' := 0) F hW (mXX8_prepare_16 h11) (cwV 2 hts (gT_V q_2_21 q_2_22 q_2_23 q_1_11 q_2_24) rfl rfl rfl hdX8_prepare ⟨Nat.le_of_ble_eq_true rfl, Nat.le_of_ble_eq_true rfl⟩) 16 8 (aX_16 K o7) rfl rfl hl.1 rfl (Nat.le_of_ble_eq_true rfl) dX0_feed_34 ⟨Nat.le_of_ble_eq_true rfl, Nat.le_of_ble_eq_true rfl⟩ rfl rfl (fun H locs hW => ?_)
  refine lv_aload_n hx hb dX0_feed_37 rfl (lv_at hl 0 rfl) ?_
  refine gw_get (v := .ref (ka K 16)) F inc_X0 hW 0 0 8 (aX_0 K o10) rfl (by decide) (hG _ q_1_231) (fun _ h9 => h9) rfl dX0_feed_38 ?_
  refine lv_iconst (v := (4 : Int32)) hx hb dX0_feed_41 (by decide) ?_
  refine lv_iload hx hb dX0_feed_42 (lv_at hl 5 rfl) ?_
  obtain ⟨o13, h14, hf⟩ := gw_bind hf
  refine gw_Vv (As := [.int (4 : Int32), .int x5]) (mc' := 0) (ms' := 0) F hW (mXX8_prepare_16 h14) (cwV 2 hts (gT_V q_2_21 q_2_22 q_2_23 q_1_11 q_2_24) rfl rfl rfl hdX8_prepare ⟨Nat.le_of_ble_eq_true rfl, Nat.le_of_ble_eq_true rfl⟩) 16 8 (aX_16 K o10) rfl rfl hl.1 rfl (Nat.le_of_ble_eq_true rfl) dX0_feed_44 ⟨Nat.le_of_ble_eq_true rfl, Nat.le_of_ble_eq_true rfl⟩ rfl rfl (fun H locs hW => ?_)
  exact gw_retv F hW hf dX0_feed_47
set_option maxHeartbeats 4000000 in
set_option maxRecDepth 100000 in
theorem mXX0_feed_0 {l : Launch} {K : KX} {σ : XS} {x1 : Int32} {x2 : Int32} {x3 : Int32} {x4 : Int32} {x5 : Int32} {o : XS} (hf : fXX0_feed_0 (kn K) x1 x2 x3 x4 x5 σ = some o) : gw_Mv l (kD K) vwCl (tyX K) (wX K) yX0_feed wsX0_feed rXX0_feed_0 [.ref (ka K 0), .int x1, .int x2, .int x3, .int x4, .int x5] σ o := by
  intro sz
  refine gw_body (cc := cX0_feed) (maxL := 6) (yret := none) (by decide +kernel) rfl ?_ (Nat.le_of_ble_eq_true rfl)
  intro p e s m below meth c F hsz hW ls hl
  exact wXX0_feed_0_0 F x1 x2 x3 x4 x5 σ o hf s.heap [] ls hl hW
abbrev rXJ2_fill_18 : Room := { frames := 0, cells := 0, slots := 0, locals := 0 }
def PXJ2_fill_18_5 (p : Program) (l : Launch) (e : Env) (s : State) (m : MethodId) (args : Array Value) (below : List Frame) (meth : Method) (c : Code) (A : Nat → Prop) (K : KX) (t : (Int32 × Int32 × Int32 × XS)) (o : XS) : Prop := ∀ (H : Heap) (locs : List Loc) (ls : Array Slot), lv_has ls 4 [(0, .ref (ka K 18)), (1, .int t.1), (2, .int t.2.1), (3, .int t.2.2.1)] → gw_ (kD K) vwCl (tyX K) (wX K) A s t.2.2.2 H locs → W p l e rXJ2_fill_18 s m args below meth c H locs 0 0 (MQ below (gw_Qv (kD K) vwCl (tyX K) (wX K) A o) args s rXJ2_fill_18.cells rXJ2_fill_18.slots A) (F0 m 5 ls [])
set_option maxHeartbeats 4000000 in
set_option maxRecDepth 100000 in
theorem wXJ2_fill_18_5 {p : Program} {l : Launch} {e : Env} {s : State} {m : MethodId} {args : Array Value} {below : List Frame} {meth : Method} {c : Code} {A : Nat → Prop} {K : KX} (F : fx_ p s m args meth c cJ2_fill 4 none RJ2 wsJ2_fill) {k5 : (Int32 × Int32 × Int32 × XS) → Option XS} (hk5 : ∀ t o, k5 t = some o → PXJ2_fill_18_5 p l e s m args below meth c A K t o) (x1 : Int32) (x2 : Int32) (x3 : Int32) (σ : XS) (o : XS) (hf : fXJ2_fill_18_5 (kn K) k5 x1 x2 x3 σ = some o) (H : Heap) (locs : List Loc) (ls : Array Slot) (hl : lv_has ls 4 [(0, .ref (ka K 18)), (1, .int x1), (2, .int x2), (3, .int x3)]) (hW : gw_ (kD K) vwCl (tyX K) (wX K) A s σ H locs) : W p l e rXJ2_fill_18 s m args below meth c H locs 0 0 (MQ below (gw_Qv (kD K) vwCl (tyX K) (wX K) A o) args s rXJ2_fill_18.cells rXJ2_fill_18.slots A) (F0 m 5 ls []) := by
  have hx := F.1
  have hb := F.2.1
  have hml := F.2.2.2.1
  have hown := F.2.2.2.2.1
  have hts := F.2.2.2.2.2.1
  have hG : ∀ x ∈ gT, x.before args s = true := fun x h => hts x (List.mem_cons_of_mem _ h)
  unfold fXJ2_fill_18_5 at hf
  refine lv_iload_n hx hb dJ2_fill_5 rfl (lv_at hl 2 rfl) ?_
  refine lv_iload_n hx hb dJ2_fill_6 rfl (lv_at hl 3 rfl) ?_
  refine lv_icmp_ge (tgt := 20) hx hb dJ2_fill_7 (by decide) (fun c1 => ?_) (fun c1 => ?_)
  · replace hf := (if_pos c1).symm.trans hf
    exact gw_retv F hW hf dJ2_fill_20
  · replace hf := (if_neg c1).symm.trans hf
    refine lv_aload_n hx hb dJ2_fill_10 rfl (lv_at hl 0 rfl) ?_
    refine lv_iload_n hx hb dJ2_fill_11 rfl (lv_at hl 2 rfl) ?_
    refine lv_iload_n hx hb dJ2_fill_12 rfl (lv_at hl 1 rfl) ?_
    rcases Decidable.em (x2 < 0 ∨ 20 ≤ x2.toNatClampNeg) with c2 | c2
    · replace hf := (if_pos c2).symm.trans hf
      exact absurd hf (by simp)
    · replace hf := (if_neg c2).symm.trans hf
      refine gw_bast (σ' := (stA σ 7 x2.toNatClampNeg (vp_nar .byte x1))) F hW 18 7 (aX_18 K σ) rfl c2 dJ2_fill_13 (sAX_7 _ _ _) (fun H locs hW => ?_)
      refine lv_iinc (v := (x2 + (1 : Int32))) (lv' := [(2, .int (x2 + (1 : Int32))), (0, .ref (ka K 18)), (1, .int x1), (3, .int x3)]) hx hb dJ2_fill_14 hl (k := 2) rfl rfl (by decide) rfl (fun ls hl => ?_)
      refine lv_goto (tgt := 5) hx hb dJ2_fill_17 (by decide) ?_
      exact hk5 _ _ hf _ _ _ (lv_sub hl [1, 2, 0, 3] rfl) hW
set_option maxHeartbeats 4000000 in
set_option maxRecDepth 100000 in
theorem wXJ2_fill_18_0 {p : Program} {l : Launch} {e : Env} {s : State} {m : MethodId} {args : Array Value} {below : List Frame} {meth : Method} {c : Code} {A : Nat → Prop} {K : KX} (F : fx_ p s m args meth c cJ2_fill 4 none RJ2 wsJ2_fill) (x1 : Int32) (σ : XS) (o : XS) (hf : fXJ2_fill_18_0 (kn K) x1 σ = some o) (H : Heap) (locs : List Loc) (ls : Array Slot) (hl : lv_has ls 4 [(0, .ref (ka K 18)), (1, .int x1)]) (hW : gw_ (kD K) vwCl (tyX K) (wX K) A s σ H locs) : W p l e rXJ2_fill_18 s m args below meth c H locs 0 0 (MQ below (gw_Qv (kD K) vwCl (tyX K) (wX K) A o) args s rXJ2_fill_18.cells rXJ2_fill_18.slots A) (F0 m 0 ls []) := by
  have hx := F.1
  have hb := F.2.1
  have hml := F.2.2.2.1
  have hown := F.2.2.2.2.1
  have hts := F.2.2.2.2.2.1
  have hG : ∀ x ∈ gT, x.before args s = true := fun x h => hts x (List.mem_cons_of_mem _ h)
  unfold fXJ2_fill_18_0 at hf
  refine lv_iconst (v := (0 : Int32)) hx hb dJ2_fill_0 (by decide) ?_
  refine lv_istore_n (lv' := [(2, .int (0 : Int32)), (0, .ref (ka K 18)), (1, .int x1)]) hx hb dJ2_fill_1 rfl hl (by decide) rfl (fun ls hl => ?_)
  refine lv_aload_n hx hb dJ2_fill_2 rfl (lv_at hl 1 rfl) ?_
  refine gw_alen F hW 18 7 (aX_18 K σ) rfl dJ2_fill_3 ?_
  refine lv_istore_n (lv' := [(3, .int (Int32.ofNat 20)), (2, .int (0 : Int32)), (0, .ref (ka K 18)), (1, .int x1)]) hx hb dJ2_fill_4 rfl hl (by decide) rfl (fun ls hl => ?_)
  exact lfix_ind (P := PXJ2_fill_18_5 p l e s m args below meth c A K) (fun k5 hk5 t o hf => wXJ2_fill_18_5 F hk5 t.1 t.2.1 t.2.2.1 t.2.2.2 o hf) FU _ _ hf _ _ _ (lv_sub hl [2, 3, 1, 0] rfl) hW
set_option maxHeartbeats 4000000 in
set_option maxRecDepth 100000 in
theorem mXJ2_fill_18 {l : Launch} {K : KX} {σ : XS} {x1 : Int32} {o : XS} (hf : fXJ2_fill_18 (kn K) x1 σ = some o) : gw_Mv l (kD K) vwCl (tyX K) (wX K) yJ2_fill wsJ2_fill rXJ2_fill_18 [.ref (ka K 18), .int x1] σ o := by
  intro sz
  refine gw_body (cc := cJ2_fill) (maxL := 4) (yret := none) (by decide +kernel) rfl ?_ (Nat.le_of_ble_eq_true rfl)
  intro p e s m below meth c F hsz hW ls hl
  exact wXJ2_fill_18_0 F x1 σ o hf s.heap [] ls hl hW
abbrev rXX8_bring_16 : Room := { frames := 1, cells := 0, slots := 0, locals := 26 }
set_option maxHeartbeats 4000000 in
set_option maxRecDepth 100000 in
theorem wXX8_bring_16_0 {p : Program} {l : Launch} {e : Env} {s : State} {m : MethodId} {args : Array Value} {below : List Frame} {meth : Method} {c : Code} {A : Nat → Prop} {K : KX} (F : fx_ p s m args meth c cX8_bring 2 (some .int) RX8 wsX8_bring) (x1 : Int32) (σ : XS) (o : (Int32 × XS)) (hf : fXX8_bring_16_0 (kn K) x1 σ = some o) (H : Heap) (locs : List Loc) (ls : Array Slot) (hl : lv_has ls 2 [(0, .ref (ka K 16)), (1, .int x1)]) (hW : gw_ (kD K) vwCl (tyX K) (wX K) A s σ H locs) : W p l e rXX8_bring_16 s m args below meth c H locs 0 0 (MQ below (gw_Qi (kD K) vwCl (tyX K) (wX K) A o) args s rXX8_bring_16.cells rXX8_bring_16.slots A) (F0 m 0 ls []) := by
  have hx := F.1
  have hb := F.2.1
  have hml := F.2.2.2.1
  have hown := F.2.2.2.2.1
  have hts := F.2.2.2.2.2.1
  have hG : ∀ x ∈ gT, x.before args s = true := fun x h => hts x (List.mem_cons_of_mem _ h)
  unfold fXX8_bring_16_0 at hf
  refine lv_iload_n hx hb dX8_bring_0 rfl (lv_at hl 1 rfl) ?_
  refine lv_if_lt (tgt := 27) hx hb dX8_bring_1 (by decide) (fun c1 => ?_) (fun c1 => ?_)
  · replace hf := (if_pos c1).symm.trans hf
    refine lv_iconst (v := (-1 : Int32)) hx hb dX8_bring_27 (by decide) ?_
    exact gw_reti F hW hf dX8_bring_28
  · replace hf := (if_neg c1).symm.trans hf
    refine lv_iload_n hx hb dX8_bring_4 rfl (lv_at hl 1 rfl) ?_
    refine lv_aload_n hx hb dX8_bring_5 rfl (lv_at hl 0 rfl) ?_
    refine gw_get (v := .ref (ka K 18)) F inc_X8 hW 16 8 1 (aX_16 K σ) rfl (by decide) (hG _ q_1_214) (fun _ h9 => h9) rfl dX8_bring_6 ?_
    refine gw_alen F hW 18 7 (aX_18 K σ) rfl dX8_bring_9 ?_
    refine lv_icmp_gt (tgt := 27) hx hb dX8_bring_10 (by decide) (fun c2 => ?_) (fun c2 => ?_)
    · replace hf := (if_pos c2).symm.trans hf
      refine lv_iconst (v := (-1 : Int32)) hx hb dX8_bring_27 (by decide) ?_
      exact gw_reti F hW hf dX8_bring_28
    · replace hf := (if_neg c2).symm.trans hf
      refine lv_iload_n hx hb dX8_bring_13 rfl (lv_at hl 1 rfl) ?_
      refine lv_aload_n hx hb dX8_bring_14 rfl (lv_at hl 0 rfl) ?_
      refine gw_get (v := .ref (ka K 17)) F inc_X8 hW 16 8 0 (aX_16 K σ) rfl (by decide) (hG _ q_1_213) (fun _ h9 => h9) rfl dX8_bring_15 ?_
      refine gw_alen F hW 17 6 (aX_17 K σ) rfl dX8_bring_18 ?_
      refine lv_aload_n hx hb dX8_bring_19 rfl (lv_at hl 0 rfl) ?_
      refine gw_get (v := .int (σ.1 8)) F inc_X8 hW 16 8 2 (aX_16 K σ) rfl (by decide) (hG _ q_1_215) (fun _ h9 => h9) rfl dX8_bring_20 ?_
      refine lv_isub hx hb dX8_bring_23 ?_
      refine lv_icmp_le (tgt := 29) hx hb dX8_bring_24 (by decide) (fun c3 => ?_) (fun c3 => ?_)
      · replace hf := (if_pos c3).symm.trans hf
        refine lv_aload_n hx hb dX8_bring_29 rfl (lv_at hl 0 rfl) ?_
        refine gw_get (v := .ref (ka K 18)) F inc_X8 hW 16 8 1 (aX_16 K σ) rfl (by decide) (hG _ q_1_214) (fun _ h9 => h9) rfl dX8_bring_30 ?_
        refine lv_iconst (v := (0 : Int32)) hx hb dX8_bring_33 (by decide) ?_
        refine lv_aload_n hx hb dX8_bring_34 rfl (lv_at hl 0 rfl) ?_
        refine gw_get (v := .ref (ka K 17)) F inc_X8 hW 16 8 0 (aX_16 K σ) rfl (by decide) (hG _ q_1_213) (fun _ h9 => h9) rfl dX8_bring_35 ?_
        refine lv_aload_n hx hb dX8_bring_38 rfl (lv_at hl 0 rfl) ?_
        refine gw_get (v := .int (σ.1 8)) F inc_X8 hW 16 8 2 (aX_16 K σ) rfl (by decide) (hG _ q_1_215) (fun _ h9 => h9) rfl dX8_bring_39 ?_
        refine lv_iload_n hx hb dX8_bring_42 rfl (lv_at hl 1 rfl) ?_
        rcases Decidable.em ((0 : Int32) < 0 ∨ (σ.1 8) < 0 ∨ x1 < 0 ∨ 20 < (0 : Int32).toNatClampNeg + x1.toNatClampNeg ∨ 4096 < (σ.1 8).toNatClampNeg + x1.toNatClampNeg) with c4 | c4
        · replace hf := (if_pos c4).symm.trans hf
          exact absurd hf (by simp)
        · replace hf := (if_neg c4).symm.trans hf
          rcases Decidable.em (∀ i, i < x1.toNatClampNeg → fits .byte (.int ((σ.2.1 7) ((0 : Int32).toNatClampNeg + i))) = true) with c5 | c5
          · replace hf := (if_pos c5).symm.trans hf
            refine gw_copyb (σ' := (stC σ 7 6 (0 : Int32).toNatClampNeg (σ.1 8).toNatClampNeg x1.toNatClampNeg)) F hW (hG _ q_2_33) (hG _ q_2_35) (hG _ q_2_34) (hG _ q_1_13) 18 17 7 6 (aX_18 K σ) (aX_17 K σ) rfl rfl c4 c5 hl.1 (Nat.le_of_ble_eq_true rfl) (Nat.le_of_ble_eq_true rfl) dX8_bring_43 (sAX_6 _ _ _) (fun H locs hW => ?_)
            refine lv_aload_n hx hb dX8_bring_46 rfl (lv_at hl 0 rfl) ?_
            refine gw_get (v := .ref (ka K 18)) F inc_X8 hW 16 8 1 (aX_16 K (stC σ 7 6 (0 : Int32).toNatClampNeg (σ.1 8).toNatClampNeg x1.toNatClampNeg)) rfl (by decide) (hG _ q_1_214) (fun _ h9 => h9) rfl dX8_bring_47 ?_
            refine lv_iconst (v := (0 : Int32)) hx hb dX8_bring_50 (by decide) ?_
            obtain ⟨o6, h7, hf⟩ := gw_bind hf
            refine gw_Sv (As := [.ref (ka K 18), .int (0 : Int32)]) (mc' := 0) (ms' := 0) F hW (mXJ2_fill_18 h7) (va_cwS 2 hts (gT_S q_2_36 q_2_37 q_1_14 q_2_38) rfl rfl rfl hdJ2_fill.2 ⟨Nat.le_of_ble_eq_true rfl, Nat.le_of_ble_eq_true rfl⟩) rfl hl.1 rfl (Nat.le_of_ble_eq_true rfl) dX8_bring_51 ⟨Nat.le_of_ble_eq_true rfl, Nat.le_of_ble_eq_true rfl⟩ rfl rfl (fun H locs hW => ?_)
            refine lv_aload_n hx hb dX8_bring_54 rfl (lv_at hl 0 rfl) ?_
            refine lv_dup hx hb dX8_bring_55 rfl ?_
            refine gw_get (v := .int (o6.1 8)) F inc_X8 hW 16 8 2 (aX_16 K o6) rfl (by decide) (hG _ q_1_215) (fun _ h9 => h9) rfl dX8_bring_56 ?_
            refine lv_iload_n hx hb dX8_bring_59 rfl (lv_at hl 1 rfl) ?_
            refine lv_iadd hx hb dX8_bring_60 ?_
            refine gw_put (σ' := (stS o6 8 ((o6.1 8) + x1))) (ty := .int) F inc_X8 tyX8 tyX8_ok nmX8 hW 16 8 2 (aX_16 K o6) rfl (by decide) (hG _ q_1_215) (fun _ h9 => h9) rfl (by decide +kernel) rfl rfl (Nat.le_of_ble_eq_true rfl) dX8_bring_61 (sSX_8 _ _ _) (fun H locs hW => ?_)
            refine lv_aload_n hx hb dX8_bring_64 rfl (lv_at hl 0 rfl) ?_
            refine gw_get (v := .int ((o6.1 8) + x1)) F inc_X8 hW 16 8 2 (aX_16 K (stS o6 8 ((o6.1 8) + x1))) rfl (by decide) (hG _ q_1_215) (fun _ h9 => h9) rfl dX8_bring_65 ?_
            exact gw_reti F hW hf dX8_bring_68
          · replace hf := (if_neg c5).symm.trans hf
            exact absurd hf (by simp)
      · replace hf := (if_neg c3).symm.trans hf
        refine lv_iconst (v := (-1 : Int32)) hx hb dX8_bring_27 (by decide) ?_
        exact gw_reti F hW hf dX8_bring_28
set_option maxHeartbeats 4000000 in
set_option maxRecDepth 100000 in
theorem mXX8_bring_16 {l : Launch} {K : KX} {σ : XS} {x1 : Int32} {o : (Int32 × XS)} (hf : fXX8_bring_16 (kn K) x1 σ = some o) : gw_Mi l (kD K) vwCl (tyX K) (wX K) yX8_bring wsX8_bring rXX8_bring_16 [.ref (ka K 16), .int x1] σ o := by
  intro sz
  refine gw_body (cc := cX8_bring) (maxL := 2) (yret := some .int) (by decide +kernel) rfl ?_ (Nat.le_of_ble_eq_true rfl)
  intro p e s m below meth c F hsz hW ls hl
  exact wXX8_bring_16_0 F x1 σ o hf s.heap [] ls hl hW
abbrev rXX0_end_0 : Room := { frames := 2, cells := 0, slots := 0, locals := 47 }
set_option maxHeartbeats 4000000 in
set_option maxRecDepth 100000 in
theorem wXX0_end_0_0 {p : Program} {l : Launch} {e : Env} {s : State} {m : MethodId} {args : Array Value} {below : List Frame} {meth : Method} {c : Code} {A : Nat → Prop} {K : KX} (F : fx_ p s m args meth c cX0_end 2 (some .int) RX0 wsX0_end) (x1 : Int32) (σ : XS) (o : (Int32 × XS)) (hf : fXX0_end_0_0 (kn K) x1 σ = some o) (H : Heap) (locs : List Loc) (ls : Array Slot) (hl : lv_has ls 2 [(0, .ref (ka K 0)), (1, .int x1)]) (hW : gw_ (kD K) vwCl (tyX K) (wX K) A s σ H locs) : W p l e rXX0_end_0 s m args below meth c H locs 0 0 (MQ below (gw_Qi (kD K) vwCl (tyX K) (wX K) A o) args s rXX0_end_0.cells rXX0_end_0.slots A) (F0 m 0 ls []) := by
  have hx := F.1
  have hb := F.2.1
  have hml := F.2.2.2.1
  have hown := F.2.2.2.2.1
  have hts := F.2.2.2.2.2.1
  have hG : ∀ x ∈ gT, x.before args s = true := fun x h => hts x (List.mem_cons_of_mem _ h)
  unfold fXX0_end_0_0 at hf
  refine lv_aload_n hx hb dX0_end_0 rfl (lv_at hl 0 rfl) ?_
  refine gw_get (v := .ref (ka K 16)) F inc_X0 hW 0 0 8 (aX_0 K σ) rfl (by decide) (hG _ q_1_231) (fun _ h9 => h9) rfl dX0_end_1 ?_
  refine lv_iload_n hx hb dX0_end_4 rfl (lv_at hl 1 rfl) ?_
  obtain ⟨o1, h2, hf⟩ := gw_bind hf
  refine gw_Vi (As := [.int x1]) (mc' := 0) (ms' := 0) F hW (mXX8_bring_16 h2) (cwV 1 hts (gT_V q_2_29 q_2_30 q_2_31 q_1_11 q_2_32) rfl rfl rfl hdX8_bring ⟨Nat.le_of_ble_eq_true rfl, Nat.le_of_ble_eq_true rfl⟩) 16 8 (aX_16 K σ) rfl rfl hl.1 rfl (Nat.le_of_ble_eq_true rfl) dX0_end_5 ⟨Nat.le_of_ble_eq_true rfl, Nat.le_of_ble_eq_true rfl⟩ rfl rfl (fun H locs hW => ?_)
  exact gw_reti F hW hf dX0_end_8
set_option maxHeartbeats 4000000 in
set_option maxRecDepth 100000 in
theorem mXX0_end_0 {l : Launch} {K : KX} {σ : XS} {x1 : Int32} {o : (Int32 × XS)} (hf : fXX0_end_0 (kn K) x1 σ = some o) : gw_Mi l (kD K) vwCl (tyX K) (wX K) yX0_end wsX0_end rXX0_end_0 [.ref (ka K 0), .int x1] σ o := by
  intro sz
  refine gw_body (cc := cX0_end) (maxL := 2) (yret := some .int) (by decide +kernel) rfl ?_ (Nat.le_of_ble_eq_true rfl)
  intro p e s m below meth c F hsz hW ls hl
  exact wXX0_end_0_0 F x1 σ o hf s.heap [] ls hl hW
abbrev rXX2_choose_3 : Room := { frames := 0, cells := 0, slots := 0, locals := 0 }
set_option maxHeartbeats 4000000 in
set_option maxRecDepth 100000 in
theorem wXX2_choose_3_84 {p : Program} {l : Launch} {e : Env} {s : State} {m : MethodId} {args : Array Value} {below : List Frame} {meth : Method} {c : Code} {A : Nat → Prop} {K : KX} (F : fx_ p s m args meth c cX2_choose 7 (some .boolean) RX2 wsX2_choose) (x1 : Int32) (x4 : Int32) (x5 : Int32) (σ : XS) (o : (Int32 × XS)) (hf : fXX2_choose_3_84 (kn K) x1 x4 x5 σ = some o) (H : Heap) (locs : List Loc) (ls : Array Slot) (hl : lv_has ls 7 [(0, .ref (ka K 3)), (1, .int x1), (4, .int x4), (5, .int x5)]) (hW : gw_ (kD K) vwCl (tyX K) (wX K) A s σ H locs) : W p l e rXX2_choose_3 s m args below meth c H locs 0 0 (MQ below (va_Qi (fun r u => (r = o.1 ∧ u = o.2) ∧ (o.1 = 0 ∨ o.1 = 1)) (gw_B (kD K) vwCl (tyX K) (wX K) A) A) args s rXX2_choose_3.cells rXX2_choose_3.slots A) (F0 m 84 ls []) := by
  have hx := F.1
  have hb := F.2.1
  have hml := F.2.2.2.1
  have hown := F.2.2.2.2.1
  have hts := F.2.2.2.2.2.1
  have hG : ∀ x ∈ gT, x.before args s = true := fun x h => hts x (List.mem_cons_of_mem _ h)
  unfold fXX2_choose_3_84 at hf
  refine lv_aload_n hx hb dX2_choose_84 rfl (lv_at hl 0 rfl) ?_
  refine gw_get (v := .int (Int32.ofNat (kn K))) F inc_X2 hW 3 2 0 (aX_3 K σ) rfl (by decide) (hG _ q_1_64) (fun _ h9 => h9) rfl dX2_choose_85 ?_
  refine lv_iconst (v := (1 : Int32)) hx hb dX2_choose_88 (by decide) ?_
  refine lv_isub hx hb dX2_choose_89 ?_
  refine lv_iload hx hb dX2_choose_90 (lv_at hl 2 rfl) ?_
  refine lv_iconst (v := (1 : Int32)) hx hb dX2_choose_92 (by decide) ?_
  refine lv_isub hx hb dX2_choose_93 ?_
  refine lv_iload_n hx hb dX2_choose_94 rfl (lv_at hl 1 rfl) ?_
  refine lv_imul hx hb dX2_choose_95 ?_
  refine lv_isub hx hb dX2_choose_96 ?_
  refine lv_istore (lv' := [(6, .int (((Int32.ofNat (kn K)) - (1 : Int32)) - ((x4 - (1 : Int32)) * x1))), (0, .ref (ka K 3)), (1, .int x1), (4, .int x4), (5, .int x5)]) hx hb dX2_choose_97 hl (by decide) rfl (fun ls hl => ?_)
  refine lv_iload hx hb dX2_choose_99 (lv_at hl 0 rfl) ?_
  refine lv_iconst (v := (4 : Int32)) hx hb dX2_choose_101 (by decide) ?_
  refine lv_iload hx hb dX2_choose_102 (lv_at hl 4 rfl) ?_
  refine lv_iadd hx hb dX2_choose_104 ?_
  refine lv_bipush (v := (8 : Int32)) hx hb dX2_choose_105 (by decide) ?_
  refine lv_iadd hx hb dX2_choose_107 ?_
  refine lv_icmp_ge (tgt := 113) hx hb dX2_choose_108 (by decide) (fun c15 => ?_) (fun c15 => ?_)
  · replace hf := (if_pos c15).symm.trans hf
    refine lv_aload_n hx hb dX2_choose_113 rfl (lv_at hl 1 rfl) ?_
    refine lv_iload_n hx hb dX2_choose_114 rfl (lv_at hl 2 rfl) ?_
    refine gw_put (σ' := (stS σ 2 x1)) (ty := .int) F inc_X2 tyX2 tyX2_ok nmX2 hW 3 2 1 (aX_3 K σ) rfl (by decide) (hG _ q_1_65) (fun _ h9 => h9) rfl (by decide +kernel) rfl rfl (Nat.le_of_ble_eq_true rfl) dX2_choose_115 (sSX_2 _ _ _) (fun H locs hW => ?_)
    refine lv_aload_n hx hb dX2_choose_118 rfl (lv_at hl 1 rfl) ?_
    refine lv_iload hx hb dX2_choose_119 (lv_at hl 3 rfl) ?_
    refine gw_put (σ' := (stS (stS σ 2 x1) 3 x4)) (ty := .int) F inc_X2 tyX2 tyX2_ok nmX2 hW 3 2 2 (aX_3 K (stS σ 2 x1)) rfl (by decide) (hG _ q_1_66) (fun _ h9 => h9) rfl (by decide +kernel) rfl rfl (Nat.le_of_ble_eq_true rfl) dX2_choose_121 (sSX_3 _ _ _) (fun H locs hW => ?_)
    refine lv_aload_n hx hb dX2_choose_124 rfl (lv_at hl 1 rfl) ?_
    refine lv_bipush (v := (8 : Int32)) hx hb dX2_choose_125 (by decide) ?_
    refine lv_iload hx hb dX2_choose_127 (lv_at hl 4 rfl) ?_
    refine lv_imul hx hb dX2_choose_129 ?_
    refine gw_put (σ' := (stS (stS (stS σ 2 x1) 3 x4) 4 ((8 : Int32) * x5))) (ty := .int) F inc_X2 tyX2 tyX2_ok nmX2 hW 3 2 3 (aX_3 K (stS (stS σ 2 x1) 3 x4)) rfl (by decide) (hG _ q_1_67) (fun _ h9 => h9) rfl (by decide +kernel) rfl rfl (Nat.le_of_ble_eq_true rfl) dX2_choose_130 (sSX_4 _ _ _) (fun H locs hW => ?_)
    refine lv_iconst (v := (1 : Int32)) hx hb dX2_choose_133 (by decide) ?_
    exact gw_retz F hW hf (Or.inr rfl) dX2_choose_134
  · replace hf := (if_neg c15).symm.trans hf
    refine lv_iconst (v := (0 : Int32)) hx hb dX2_choose_111 (by decide) ?_
    exact gw_retz F hW hf (Or.inl rfl) dX2_choose_112
set_option maxHeartbeats 4000000 in
set_option maxRecDepth 100000 in
theorem wXX2_choose_3_25 {p : Program} {l : Launch} {e : Env} {s : State} {m : MethodId} {args : Array Value} {below : List Frame} {meth : Method} {c : Code} {A : Nat → Prop} {K : KX} (F : fx_ p s m args meth c cX2_choose 7 (some .boolean) RX2 wsX2_choose) (x1 : Int32) (x2 : Int32) (y0 : Int32) (σ : XS) (o : (Int32 × XS)) (hf : fXX2_choose_3_25 (kn K) x1 x2 y0 σ = some o) (H : Heap) (locs : List Loc) (ls : Array Slot) (hl : lv_has ls 7 [(0, .ref (ka K 3)), (1, .int x1), (2, .int x2)]) (hW : gw_ (kD K) vwCl (tyX K) (wX K) A s σ H locs) : W p l e rXX2_choose_3 s m args below meth c H locs 0 0 (MQ below (va_Qi (fun r u => (r = o.1 ∧ u = o.2) ∧ (o.1 = 0 ∨ o.1 = 1)) (gw_B (kD K) vwCl (tyX K) (wX K) A) A) args s rXX2_choose_3.cells rXX2_choose_3.slots A) (F0 m 25 ls [.int y0]) := by
  have hx := F.1
  have hb := F.2.1
  have hml := F.2.2.2.1
  have hown := F.2.2.2.2.1
  have hts := F.2.2.2.2.2.1
  have hG : ∀ x ∈ gT, x.before args s = true := fun x h => hts x (List.mem_cons_of_mem _ h)
  unfold fXX2_choose_3_25 at hf
  refine lv_istore_n (lv' := [(3, .int y0), (0, .ref (ka K 3)), (1, .int x1), (2, .int x2)]) hx hb dX2_choose_25 rfl hl (by decide) rfl (fun ls hl => ?_)
  refine lv_iload_n hx hb dX2_choose_26 rfl (lv_at hl 0 rfl) ?_
  refine lv_if_eq (tgt := 43) hx hb dX2_choose_27 (by decide) (fun c9 => ?_) (fun c9 => ?_)
  · replace hf := (if_pos c9).symm.trans hf
    refine lv_iconst (v := (0 : Int32)) hx hb dX2_choose_43 (by decide) ?_
    exact gw_retz F hW hf (Or.inl rfl) dX2_choose_44
  · replace hf := (if_neg c9).symm.trans hf
    refine lv_iload_n hx hb dX2_choose_30 rfl (lv_at hl 3 rfl) ?_
    refine lv_bipush (v := (12 : Int32)) hx hb dX2_choose_31 (by decide) ?_
    refine lv_icmp_lt (tgt := 43) hx hb dX2_choose_33 (by decide) (fun c10 => ?_) (fun c10 => ?_)
    · replace hf := (if_pos c10).symm.trans hf
      refine lv_iconst (v := (0 : Int32)) hx hb dX2_choose_43 (by decide) ?_
      exact gw_retz F hW hf (Or.inl rfl) dX2_choose_44
    · replace hf := (if_neg c10).symm.trans hf
      refine lv_iload_n hx hb dX2_choose_36 rfl (lv_at hl 3 rfl) ?_
      refine lv_sipush (v := (2000 : Int32)) hx hb dX2_choose_37 (by decide) ?_
      refine lv_icmp_le (tgt := 45) hx hb dX2_choose_40 (by decide) (fun c11 => ?_) (fun c11 => ?_)
      · replace hf := (if_pos c11).symm.trans hf
        refine lv_aload_n hx hb dX2_choose_45 rfl (lv_at hl 1 rfl) ?_
        refine gw_get (v := .int (Int32.ofNat (kn K))) F inc_X2 hW 3 2 0 (aX_3 K σ) rfl (by decide) (hG _ q_1_64) (fun _ h9 => h9) rfl dX2_choose_46 ?_
        refine lv_iconst (v := (1 : Int32)) hx hb dX2_choose_49 (by decide) ?_
        refine lv_isub hx hb dX2_choose_50 ?_
        refine lv_iload_n hx hb dX2_choose_51 rfl (lv_at hl 2 rfl) ?_
        refine lv_iadd hx hb dX2_choose_52 ?_
        refine lv_iconst (v := (1 : Int32)) hx hb dX2_choose_53 (by decide) ?_
        refine lv_isub hx hb dX2_choose_54 ?_
        refine lv_iload_n hx hb dX2_choose_55 rfl (lv_at hl 2 rfl) ?_
        rcases Decidable.em (x1 = 0) with c12 | c12
        · replace hf := (if_pos c12).symm.trans hf
          exact absurd hf (by simp)
        · replace hf := (if_neg c12).symm.trans hf
          refine lv_idiv hx hb dX2_choose_56 c12 ?_
          refine lv_istore (lv' := [(4, .int (((((Int32.ofNat (kn K)) - (1 : Int32)) + x1) - (1 : Int32)) / x1)), (3, .int y0), (0, .ref (ka K 3)), (1, .int x1), (2, .int x2)]) hx hb dX2_choose_57 hl (by decide) rfl (fun ls hl => ?_)
          refine lv_iload hx hb dX2_choose_59 (lv_at hl 0 rfl) ?_
          refine lv_iconst (v := (1 : Int32)) hx hb dX2_choose_61 (by decide) ?_
          refine lv_icmp_ge (tgt := 67) hx hb dX2_choose_62 (by decide) (fun c13 => ?_) (fun c13 => ?_)
          · replace hf := (if_pos c13).symm.trans hf
            refine lv_iload_n hx hb dX2_choose_67 rfl (lv_at hl 4 rfl) ?_
            refine lv_bipush (v := (8 : Int32)) hx hb dX2_choose_68 (by decide) ?_
            refine lv_iload hx hb dX2_choose_70 (lv_at hl 0 rfl) ?_
            refine lv_imul hx hb dX2_choose_72 ?_
            refine lv_iadd hx hb dX2_choose_73 ?_
            refine lv_iconst (v := (1 : Int32)) hx hb dX2_choose_74 (by decide) ?_
            refine lv_isub hx hb dX2_choose_75 ?_
            refine lv_bipush (v := (8 : Int32)) hx hb dX2_choose_76 (by decide) ?_
            refine lv_iload hx hb dX2_choose_78 (lv_at hl 0 rfl) ?_
            refine lv_imul hx hb dX2_choose_80 ?_
            rcases Decidable.em (((8 : Int32) * (((((Int32.ofNat (kn K)) - (1 : Int32)) + x1) - (1 : Int32)) / x1)) = 0) with c14 | c14
            · replace hf := (if_pos c14).symm.trans hf
              exact absurd hf (by simp)
            · replace hf := (if_neg c14).symm.trans hf
              refine lv_idiv hx hb dX2_choose_81 c14 ?_
              refine lv_istore (lv' := [(5, .int (((x2 + ((8 : Int32) * (((((Int32.ofNat (kn K)) - (1 : Int32)) + x1) - (1 : Int32)) / x1))) - (1 : Int32)) / ((8 : Int32) * (((((Int32.ofNat (kn K)) - (1 : Int32)) + x1) - (1 : Int32)) / x1)))), (4, .int (((((Int32.ofNat (kn K)) - (1 : Int32)) + x1) - (1 : Int32)) / x1)), (3, .int y0), (0, .ref (ka K 3)), (1, .int x1), (2, .int x2)]) hx hb dX2_choose_82 hl (by decide) rfl (fun ls hl => ?_)
              exact wXX2_choose_3_84 F x1 (((((Int32.ofNat (kn K)) - (1 : Int32)) + x1) - (1 : Int32)) / x1) (((x2 + ((8 : Int32) * (((((Int32.ofNat (kn K)) - (1 : Int32)) + x1) - (1 : Int32)) / x1))) - (1 : Int32)) / ((8 : Int32) * (((((Int32.ofNat (kn K)) - (1 : Int32)) + x1) - (1 : Int32)) / x1))) _ _ hf _ _ _ (lv_sub hl [3, 4, 1, 0] rfl) hW
          · replace hf := (if_neg c13).symm.trans hf
            refine lv_iconst (v := (0 : Int32)) hx hb dX2_choose_65 (by decide) ?_
            exact gw_retz F hW hf (Or.inl rfl) dX2_choose_66
      · replace hf := (if_neg c11).symm.trans hf
        refine lv_iconst (v := (0 : Int32)) hx hb dX2_choose_43 (by decide) ?_
        exact gw_retz F hW hf (Or.inl rfl) dX2_choose_44
set_option maxHeartbeats 4000000 in
set_option maxRecDepth 100000 in
theorem wXX2_choose_3_20 {p : Program} {l : Launch} {e : Env} {s : State} {m : MethodId} {args : Array Value} {below : List Frame} {meth : Method} {c : Code} {A : Nat → Prop} {K : KX} (F : fx_ p s m args meth c cX2_choose 7 (some .boolean) RX2 wsX2_choose) (x1 : Int32) (x2 : Int32) (σ : XS) (o : (Int32 × XS)) (hf : fXX2_choose_3_20 (kn K) x1 x2 σ = some o) (H : Heap) (locs : List Loc) (ls : Array Slot) (hl : lv_has ls 7 [(0, .ref (ka K 3)), (1, .int x1), (2, .int x2)]) (hW : gw_ (kD K) vwCl (tyX K) (wX K) A s σ H locs) : W p l e rXX2_choose_3 s m args below meth c H locs 0 0 (MQ below (va_Qi (fun r u => (r = o.1 ∧ u = o.2) ∧ (o.1 = 0 ∨ o.1 = 1)) (gw_B (kD K) vwCl (tyX K) (wX K) A) A) args s rXX2_choose_3.cells rXX2_choose_3.slots A) (F0 m 20 ls []) := by
  have hx := F.1
  have hb := F.2.1
  have hml := F.2.2.2.1
  have hown := F.2.2.2.2.1
  have hts := F.2.2.2.2.2.1
  have hG : ∀ x ∈ gT, x.before args s = true := fun x h => hts x (List.mem_cons_of_mem _ h)
  unfold fXX2_choose_3_20 at hf
  refine lv_iconst (v := (1 : Int32)) hx hb dX2_choose_20 (by decide) ?_
  refine lv_goto (tgt := 25) hx hb dX2_choose_21 (by decide) ?_
  exact wXX2_choose_3_25 F x1 x2 (1 : Int32) _ _ hf _ _ _ (lv_sub hl [0, 1, 2] rfl) hW
set_option maxHeartbeats 4000000 in
set_option maxRecDepth 100000 in
theorem wXX2_choose_3_0 {p : Program} {l : Launch} {e : Env} {s : State} {m : MethodId} {args : Array Value} {below : List Frame} {meth : Method} {c : Code} {A : Nat → Prop} {K : KX} (F : fx_ p s m args meth c cX2_choose 7 (some .boolean) RX2 wsX2_choose) (x1 : Int32) (x2 : Int32) (σ : XS) (o : (Int32 × XS)) (hf : fXX2_choose_3_0 (kn K) x1 x2 σ = some o) (H : Heap) (locs : List Loc) (ls : Array Slot) (hl : lv_has ls 7 [(0, .ref (ka K 3)), (1, .int x1), (2, .int x2)]) (hW : gw_ (kD K) vwCl (tyX K) (wX K) A s σ H locs) : W p l e rXX2_choose_3 s m args below meth c H locs 0 0 (MQ below (va_Qi (fun r u => (r = o.1 ∧ u = o.2) ∧ (o.1 = 0 ∨ o.1 = 1)) (gw_B (kD K) vwCl (tyX K) (wX K) A) A) args s rXX2_choose_3.cells rXX2_choose_3.slots A) (F0 m 0 ls []) := by
  have hx := F.1
  have hb := F.2.1
  have hml := F.2.2.2.1
  have hown := F.2.2.2.2.1
  have hts := F.2.2.2.2.2.1
  have hG : ∀ x ∈ gT, x.before args s = true := fun x h => hts x (List.mem_cons_of_mem _ h)
  unfold fXX2_choose_3_0 at hf
  refine lv_iload_n hx hb dX2_choose_0 rfl (lv_at hl 1 rfl) ?_
  refine lv_bipush (v := (64 : Int32)) hx hb dX2_choose_1 (by decide) ?_
  refine lv_icmp_eq (tgt := 20) hx hb dX2_choose_3 (by decide) (fun c8 => ?_) (fun c8 => ?_)
  · replace hf := (if_pos c8).symm.trans hf
    exact wXX2_choose_3_20 F x1 x2 _ _ hf _ _ _ (lv_sub hl [0, 1, 2] rfl) hW
  · replace hf := (if_neg c8).symm.trans hf
    refine lv_iload_n hx hb dX2_choose_6 rfl (lv_at hl 1 rfl) ?_
    refine lv_sipush (v := (128 : Int32)) hx hb dX2_choose_7 (by decide) ?_
    refine lv_icmp_eq (tgt := 20) hx hb dX2_choose_10 (by decide) (fun c16 => ?_) (fun c16 => ?_)
    · replace hf := (if_pos c16).symm.trans hf
      exact wXX2_choose_3_20 F x1 x2 _ _ hf _ _ _ (lv_sub hl [0, 1, 2] rfl) hW
    · replace hf := (if_neg c16).symm.trans hf
      refine lv_iload_n hx hb dX2_choose_13 rfl (lv_at hl 1 rfl) ?_
      refine lv_sipush (v := (256 : Int32)) hx hb dX2_choose_14 (by decide) ?_
      refine lv_icmp_ne (tgt := 24) hx hb dX2_choose_17 (by decide) (fun c17 => ?_) (fun c17 => ?_)
      · replace hf := (if_neg c17).symm.trans hf
        refine lv_iconst (v := (0 : Int32)) hx hb dX2_choose_24 (by decide) ?_
        exact wXX2_choose_3_25 F x1 x2 (0 : Int32) _ _ hf _ _ _ (lv_sub hl [0, 1, 2] rfl) hW
      · replace hf := (if_pos c17).symm.trans hf
        exact wXX2_choose_3_20 F x1 x2 _ _ hf _ _ _ (lv_sub hl [0, 1, 2] rfl) hW
set_option maxHeartbeats 4000000 in
set_option maxRecDepth 100000 in
theorem mXX2_choose_3 {l : Launch} {K : KX} {σ : XS} {x1 : Int32} {x2 : Int32} {o : (Int32 × XS)} (hf : fXX2_choose_3 (kn K) x1 x2 σ = some o) : gw_Mz l (kD K) vwCl (tyX K) (wX K) yX2_choose wsX2_choose rXX2_choose_3 [.ref (ka K 3), .int x1, .int x2] σ o := by
  intro sz
  refine gw_body (cc := cX2_choose) (maxL := 7) (yret := some .boolean) (by decide +kernel) rfl ?_ (Nat.le_of_ble_eq_true rfl)
  intro p e s m below meth c F hsz hW ls hl
  exact wXX2_choose_3_0 F x1 x2 σ o hf s.heap [] ls hl hW
abbrev rXX1_length_1 : Room := { frames := 0, cells := 0, slots := 0, locals := 0 }
set_option maxHeartbeats 4000000 in
set_option maxRecDepth 100000 in
theorem wXX1_length_1_0 {p : Program} {l : Launch} {e : Env} {s : State} {m : MethodId} {args : Array Value} {below : List Frame} {meth : Method} {c : Code} {A : Nat → Prop} {K : KX} (F : fx_ p s m args meth c cX1_length 1 (some .int) RX1 wsX1_length) (σ : XS) (o : (Int32 × XS)) (hf : fXX1_length_1_0 (kn K) σ = some o) (H : Heap) (locs : List Loc) (ls : Array Slot) (hl : lv_has ls 1 [(0, .ref (ka K 1))]) (hW : gw_ (kD K) vwCl (tyX K) (wX K) A s σ H locs) : W p l e rXX1_length_1 s m args below meth c H locs 0 0 (MQ below (gw_Qi (kD K) vwCl (tyX K) (wX K) A o) args s rXX1_length_1.cells rXX1_length_1.slots A) (F0 m 0 ls []) := by
  have hx := F.1
  have hb := F.2.1
  have hml := F.2.2.2.1
  have hown := F.2.2.2.2.1
  have hts := F.2.2.2.2.2.1
  have hG : ∀ x ∈ gT, x.before args s = true := fun x h => hts x (List.mem_cons_of_mem _ h)
  unfold fXX1_length_1_0 at hf
  refine lv_aload_n hx hb dX1_length_0 rfl (lv_at hl 0 rfl) ?_
  refine gw_get (v := .ref (ka K 2)) F inc_X1 hW 1 1 0 (aX_1 K σ) rfl (by decide) (hG _ q_1_53) (fun _ h9 => h9) rfl dX1_length_1 ?_
  refine gw_alen F hW 2 0 (aX_2 K σ) rfl dX1_length_4 ?_
  exact gw_reti F hW hf dX1_length_5
set_option maxHeartbeats 4000000 in
set_option maxRecDepth 100000 in
theorem mXX1_length_1 {l : Launch} {K : KX} {σ : XS} {o : (Int32 × XS)} (hf : fXX1_length_1 (kn K) σ = some o) : gw_Mi l (kD K) vwCl (tyX K) (wX K) yX1_length wsX1_length rXX1_length_1 [.ref (ka K 1)] σ o := by
  intro sz
  refine gw_body (cc := cX1_length) (maxL := 1) (yret := some .int) (by decide +kernel) rfl ?_ (Nat.le_of_ble_eq_true rfl)
  intro p e s m below meth c F hsz hW ls hl
  exact wXX1_length_1_0 F σ o hf s.heap [] ls hl hW
abbrev rXJ2_rangeCheck : Room := { frames := 0, cells := 0, slots := 0, locals := 0 }
set_option maxHeartbeats 4000000 in
set_option maxRecDepth 100000 in
theorem wXJ2_rangeCheck_0 {p : Program} {l : Launch} {e : Env} {s : State} {m : MethodId} {args : Array Value} {below : List Frame} {meth : Method} {c : Code} {A : Nat → Prop} {K : KX} (F : fx_ p s m args meth c cJ2_rangeCheck 3 none RJ2 wsJ2_rangeCheck) (x0 : Int32) (x1 : Int32) (x2 : Int32) (σ : XS) (o : XS) (hf : fXJ2_rangeCheck_0 (kn K) x0 x1 x2 σ = some o) (H : Heap) (locs : List Loc) (ls : Array Slot) (hl : lv_has ls 3 [(0, .int x0), (1, .int x1), (2, .int x2)]) (hW : gw_ (kD K) vwCl (tyX K) (wX K) A s σ H locs) : W p l e rXJ2_rangeCheck s m args below meth c H locs 0 0 (MQ below (gw_Qv (kD K) vwCl (tyX K) (wX K) A o) args s rXJ2_rangeCheck.cells rXJ2_rangeCheck.slots A) (F0 m 0 ls []) := by
  have hx := F.1
  have hb := F.2.1
  have hml := F.2.2.2.1
  have hown := F.2.2.2.2.1
  have hts := F.2.2.2.2.2.1
  have hG : ∀ x ∈ gT, x.before args s = true := fun x h => hts x (List.mem_cons_of_mem _ h)
  unfold fXJ2_rangeCheck_0 at hf
  refine lv_iload_n hx hb dJ2_rangeCheck_0 rfl (lv_at hl 1 rfl) ?_
  refine lv_iload_n hx hb dJ2_rangeCheck_1 rfl (lv_at hl 2 rfl) ?_
  refine lv_icmp_le (tgt := 46) hx hb dJ2_rangeCheck_2 (by decide) (fun c1 => ?_) (fun c1 => ?_)
  · replace hf := (if_pos c1).symm.trans hf
    refine lv_iload_n hx hb dJ2_rangeCheck_46 rfl (lv_at hl 1 rfl) ?_
    refine lv_if_ge (tgt := 59) hx hb dJ2_rangeCheck_47 (by decide) (fun c2 => ?_) (fun c2 => ?_)
    · replace hf := (if_pos c2).symm.trans hf
      refine lv_iload_n hx hb dJ2_rangeCheck_59 rfl (lv_at hl 2 rfl) ?_
      refine lv_iload_n hx hb dJ2_rangeCheck_60 rfl (lv_at hl 0 rfl) ?_
      refine lv_icmp_le (tgt := 73) hx hb dJ2_rangeCheck_61 (by decide) (fun c3 => ?_) (fun c3 => ?_)
      · replace hf := (if_pos c3).symm.trans hf
        exact gw_retv F hW hf dJ2_rangeCheck_73
      · replace hf := (if_neg c3).symm.trans hf
        exact absurd hf (by simp)
    · replace hf := (if_neg c2).symm.trans hf
      exact absurd hf (by simp)
  · replace hf := (if_neg c1).symm.trans hf
    exact absurd hf (by simp)
set_option maxHeartbeats 4000000 in
set_option maxRecDepth 100000 in
theorem mXJ2_rangeCheck {l : Launch} {K : KX} {σ : XS} {x0 : Int32} {x1 : Int32} {x2 : Int32} {o : XS} (hf : fXJ2_rangeCheck (kn K) x0 x1 x2 σ = some o) : gw_Mv l (kD K) vwCl (tyX K) (wX K) yJ2_rangeCheck wsJ2_rangeCheck rXJ2_rangeCheck [.int x0, .int x1, .int x2] σ o := by
  intro sz
  refine gw_body (cc := cJ2_rangeCheck) (maxL := 3) (yret := none) (by decide +kernel) rfl ?_ (Nat.le_of_ble_eq_true rfl)
  intro p e s m below meth c F hsz hW ls hl
  exact wXJ2_rangeCheck_0 F x0 x1 x2 σ o hf s.heap [] ls hl hW
abbrev rXJ2_fill___2 : Room := { frames := 1, cells := 0, slots := 0, locals := 22 }
def PXJ2_fill___2_10 (p : Program) (l : Launch) (e : Env) (s : State) (m : MethodId) (args : Array Value) (below : List Frame) (meth : Method) (c : Code) (A : Nat → Prop) (K : KX) (t : (Int32 × Int32 × Int32 × XS)) (o : XS) : Prop := ∀ (H : Heap) (locs : List Loc) (ls : Array Slot), lv_has ls 5 [(0, .ref (ka K 2)), (2, .int t.1), (3, .int t.2.1), (4, .int t.2.2.1)] → gw_ (kD K) vwCl (tyX K) (wX K) A s t.2.2.2 H locs → W p l e rXJ2_fill___2 s m args below meth c H locs 0 0 (MQ below (gw_Qv (kD K) vwCl (tyX K) (wX K) A o) args s rXJ2_fill___2.cells rXJ2_fill___2.slots A) (F0 m 10 ls [])
set_option maxHeartbeats 4000000 in
set_option maxRecDepth 100000 in
theorem wXJ2_fill___2_10 {p : Program} {l : Launch} {e : Env} {s : State} {m : MethodId} {args : Array Value} {below : List Frame} {meth : Method} {c : Code} {A : Nat → Prop} {K : KX} (F : fx_ p s m args meth c cJ2_fill__ 5 none RJ2 wsJ2_fill__) {k10 : (Int32 × Int32 × Int32 × XS) → Option XS} (hk10 : ∀ t o, k10 t = some o → PXJ2_fill___2_10 p l e s m args below meth c A K t o) (x2 : Int32) (x3 : Int32) (x4 : Int32) (σ : XS) (o : XS) (hf : fXJ2_fill___2_10 (kn K) k10 x2 x3 x4 σ = some o) (H : Heap) (locs : List Loc) (ls : Array Slot) (hl : lv_has ls 5 [(0, .ref (ka K 2)), (2, .int x2), (3, .int x3), (4, .int x4)]) (hW : gw_ (kD K) vwCl (tyX K) (wX K) A s σ H locs) : W p l e rXJ2_fill___2 s m args below meth c H locs 0 0 (MQ below (gw_Qv (kD K) vwCl (tyX K) (wX K) A o) args s rXJ2_fill___2.cells rXJ2_fill___2.slots A) (F0 m 10 ls []) := by
  have hx := F.1
  have hb := F.2.1
  have hml := F.2.2.2.1
  have hown := F.2.2.2.2.1
  have hts := F.2.2.2.2.2.1
  have hG : ∀ x ∈ gT, x.before args s = true := fun x h => hts x (List.mem_cons_of_mem _ h)
  unfold fXJ2_fill___2_10 at hf
  refine lv_iload hx hb dJ2_fill___10 (lv_at hl 3 rfl) ?_
  refine lv_iload_n hx hb dJ2_fill___12 rfl (lv_at hl 1 rfl) ?_
  refine lv_icmp_ge (tgt := 27) hx hb dJ2_fill___13 (by decide) (fun c4 => ?_) (fun c4 => ?_)
  · replace hf := (if_pos c4).symm.trans hf
    exact gw_retv F hW hf dJ2_fill___27
  · replace hf := (if_neg c4).symm.trans hf
    refine lv_aload_n hx hb dJ2_fill___16 rfl (lv_at hl 0 rfl) ?_
    refine lv_iload hx hb dJ2_fill___17 (lv_at hl 3 rfl) ?_
    refine lv_iload_n hx hb dJ2_fill___19 rfl (lv_at hl 2 rfl) ?_
    rcases Decidable.em (x4 < 0 ∨ ((kn K) * 1024) ≤ x4.toNatClampNeg) with c5 | c5
    · replace hf := (if_pos c5).symm.trans hf
      exact absurd hf (by simp)
    · replace hf := (if_neg c5).symm.trans hf
      refine gw_bast (σ' := (stA σ 0 x4.toNatClampNeg (vp_nar .byte x3))) F hW 2 0 (aX_2 K σ) rfl c5 dJ2_fill___20 (sAX_0 _ _ _) (fun H locs hW => ?_)
      refine lv_iinc (v := (x4 + (1 : Int32))) (lv' := [(4, .int (x4 + (1 : Int32))), (0, .ref (ka K 2)), (2, .int x2), (3, .int x3)]) hx hb dJ2_fill___21 hl (k := 3) rfl rfl (by decide) rfl (fun ls hl => ?_)
      refine lv_goto (tgt := 10) hx hb dJ2_fill___24 (by decide) ?_
      exact hk10 _ _ hf _ _ _ (lv_sub hl [1, 2, 3, 0] rfl) hW
set_option maxHeartbeats 4000000 in
set_option maxRecDepth 100000 in
theorem wXJ2_fill___2_0 {p : Program} {l : Launch} {e : Env} {s : State} {m : MethodId} {args : Array Value} {below : List Frame} {meth : Method} {c : Code} {A : Nat → Prop} {K : KX} (F : fx_ p s m args meth c cJ2_fill__ 5 none RJ2 wsJ2_fill__) (x1 : Int32) (x2 : Int32) (x3 : Int32) (σ : XS) (o : XS) (hf : fXJ2_fill___2_0 (kn K) x1 x2 x3 σ = some o) (H : Heap) (locs : List Loc) (ls : Array Slot) (hl : lv_has ls 5 [(0, .ref (ka K 2)), (1, .int x1), (2, .int x2), (3, .int x3)]) (hW : gw_ (kD K) vwCl (tyX K) (wX K) A s σ H locs) : W p l e rXJ2_fill___2 s m args below meth c H locs 0 0 (MQ below (gw_Qv (kD K) vwCl (tyX K) (wX K) A o) args s rXJ2_fill___2.cells rXJ2_fill___2.slots A) (F0 m 0 ls []) := by
  have hx := F.1
  have hb := F.2.1
  have hml := F.2.2.2.1
  have hown := F.2.2.2.2.1
  have hts := F.2.2.2.2.2.1
  have hG : ∀ x ∈ gT, x.before args s = true := fun x h => hts x (List.mem_cons_of_mem _ h)
  unfold fXJ2_fill___2_0 at hf
  refine lv_aload_n hx hb dJ2_fill___0 rfl (lv_at hl 0 rfl) ?_
  refine gw_alen F hW 2 0 (aX_2 K σ) rfl dJ2_fill___1 ?_
  refine lv_iload_n hx hb dJ2_fill___2 rfl (lv_at hl 1 rfl) ?_
  refine lv_iload_n hx hb dJ2_fill___3 rfl (lv_at hl 2 rfl) ?_
  obtain ⟨o1, h2, hf⟩ := gw_bind hf
  refine gw_Sv (As := [.int (Int32.ofNat ((kn K) * 1024)), .int x1, .int x2]) (mc' := 0) (ms' := 0) F hW (mXJ2_rangeCheck h2) (va_cwS 3 hts (gT_S q_3_48 q_3_49 q_1_14 q_3_50) rfl rfl rfl hdJ2_rangeCheck.2 ⟨Nat.le_of_ble_eq_true rfl, Nat.le_of_ble_eq_true rfl⟩) rfl hl.1 rfl (Nat.le_of_ble_eq_true rfl) dJ2_fill___4 ⟨Nat.le_of_ble_eq_true rfl, Nat.le_of_ble_eq_true rfl⟩ rfl rfl (fun H locs hW => ?_)
  refine lv_iload_n hx hb dJ2_fill___7 rfl (lv_at hl 1 rfl) ?_
  refine lv_istore (lv' := [(4, .int x1), (0, .ref (ka K 2)), (1, .int x1), (2, .int x2), (3, .int x3)]) hx hb dJ2_fill___8 hl (by decide) rfl (fun ls hl => ?_)
  exact lfix_ind (P := PXJ2_fill___2_10 p l e s m args below meth c A K) (fun k10 hk10 t o hf => wXJ2_fill___2_10 F hk10 t.1 t.2.1 t.2.2.1 t.2.2.2 o hf) FU _ _ hf _ _ _ (lv_sub hl [1, 3, 4, 0] rfl) hW
set_option maxHeartbeats 4000000 in
set_option maxRecDepth 100000 in
theorem mXJ2_fill___2 {l : Launch} {K : KX} {σ : XS} {x1 : Int32} {x2 : Int32} {x3 : Int32} {o : XS} (hf : fXJ2_fill___2 (kn K) x1 x2 x3 σ = some o) : gw_Mv l (kD K) vwCl (tyX K) (wX K) yJ2_fill__ wsJ2_fill__ rXJ2_fill___2 [.ref (ka K 2), .int x1, .int x2, .int x3] σ o := by
  intro sz
  refine gw_body (cc := cJ2_fill__) (maxL := 5) (yret := none) (by decide +kernel) rfl ?_ (Nat.le_of_ble_eq_true rfl)
  intro p e s m below meth c F hsz hW ls hl
  exact wXJ2_fill___2_0 F x1 x2 x3 σ o hf s.heap [] ls hl hW
abbrev rXX1_fill_1 : Room := { frames := 2, cells := 0, slots := 0, locals := 46 }
set_option maxHeartbeats 4000000 in
set_option maxRecDepth 100000 in
theorem wXX1_fill_1_0 {p : Program} {l : Launch} {e : Env} {s : State} {m : MethodId} {args : Array Value} {below : List Frame} {meth : Method} {c : Code} {A : Nat → Prop} {K : KX} (F : fx_ p s m args meth c cX1_fill 4 none RX1 wsX1_fill) (x1 : Int32) (x2 : Int32) (x3 : Int32) (σ : XS) (o : XS) (hf : fXX1_fill_1_0 (kn K) x1 x2 x3 σ = some o) (H : Heap) (locs : List Loc) (ls : Array Slot) (hl : lv_has ls 4 [(0, .ref (ka K 1)), (1, .int x1), (2, .int x2), (3, .int x3)]) (hW : gw_ (kD K) vwCl (tyX K) (wX K) A s σ H locs) : W p l e rXX1_fill_1 s m args below meth c H locs 0 0 (MQ below (gw_Qv (kD K) vwCl (tyX K) (wX K) A o) args s rXX1_fill_1.cells rXX1_fill_1.slots A) (F0 m 0 ls []) := by
  have hx := F.1
  have hb := F.2.1
  have hml := F.2.2.2.1
  have hown := F.2.2.2.2.1
  have hts := F.2.2.2.2.2.1
  have hG : ∀ x ∈ gT, x.before args s = true := fun x h => hts x (List.mem_cons_of_mem _ h)
  unfold fXX1_fill_1_0 at hf
  refine lv_iload_n hx hb dX1_fill_0 rfl (lv_at hl 1 rfl) ?_
  refine lv_if_lt (tgt := 29) hx hb dX1_fill_1 (by decide) (fun c1 => ?_) (fun c1 => ?_)
  · replace hf := (if_pos c1).symm.trans hf
    exact gw_retv F hW hf dX1_fill_29
  · replace hf := (if_neg c1).symm.trans hf
    refine lv_iload_n hx hb dX1_fill_4 rfl (lv_at hl 1 rfl) ?_
    refine lv_iload_n hx hb dX1_fill_5 rfl (lv_at hl 2 rfl) ?_
    refine lv_icmp_gt (tgt := 29) hx hb dX1_fill_6 (by decide) (fun c2 => ?_) (fun c2 => ?_)
    · replace hf := (if_pos c2).symm.trans hf
      exact gw_retv F hW hf dX1_fill_29
    · replace hf := (if_neg c2).symm.trans hf
      refine lv_iload_n hx hb dX1_fill_9 rfl (lv_at hl 2 rfl) ?_
      refine lv_aload_n hx hb dX1_fill_10 rfl (lv_at hl 0 rfl) ?_
      refine gw_get (v := .ref (ka K 2)) F inc_X1 hW 1 1 0 (aX_1 K σ) rfl (by decide) (hG _ q_1_53) (fun _ h9 => h9) rfl dX1_fill_11 ?_
      refine gw_alen F hW 2 0 (aX_2 K σ) rfl dX1_fill_14 ?_
      refine lv_icmp_gt (tgt := 29) hx hb dX1_fill_15 (by decide) (fun c3 => ?_) (fun c3 => ?_)
      · replace hf := (if_pos c3).symm.trans hf
        exact gw_retv F hW hf dX1_fill_29
      · replace hf := (if_neg c3).symm.trans hf
        refine lv_aload_n hx hb dX1_fill_18 rfl (lv_at hl 0 rfl) ?_
        refine gw_get (v := .ref (ka K 2)) F inc_X1 hW 1 1 0 (aX_1 K σ) rfl (by decide) (hG _ q_1_53) (fun _ h9 => h9) rfl dX1_fill_19 ?_
        refine lv_iload_n hx hb dX1_fill_22 rfl (lv_at hl 1 rfl) ?_
        refine lv_iload_n hx hb dX1_fill_23 rfl (lv_at hl 2 rfl) ?_
        refine lv_iload_n hx hb dX1_fill_24 rfl (lv_at hl 3 rfl) ?_
        refine lv_i2b (v := x3.toInt8.toInt32) hx hb dX1_fill_25 rfl ?_
        obtain ⟨o4, h5, hf⟩ := gw_bind hf
        refine gw_Sv (As := [.ref (ka K 2), .int x1, .int x2, .int x3.toInt8.toInt32]) (mc' := 0) (ms' := 0) F hW (mXJ2_fill___2 h5) (va_cwS 4 hts (gT_S q_3_45 q_3_46 q_1_14 q_3_47) rfl rfl rfl hdJ2_fill__.2 ⟨Nat.le_of_ble_eq_true rfl, Nat.le_of_ble_eq_true rfl⟩) rfl hl.1 rfl (Nat.le_of_ble_eq_true rfl) dX1_fill_26 ⟨Nat.le_of_ble_eq_true rfl, Nat.le_of_ble_eq_true rfl⟩ rfl rfl (fun H locs hW => ?_)
        exact gw_retv F hW hf dX1_fill_29
set_option maxHeartbeats 4000000 in
set_option maxRecDepth 100000 in
theorem mXX1_fill_1 {l : Launch} {K : KX} {σ : XS} {x1 : Int32} {x2 : Int32} {x3 : Int32} {o : XS} (hf : fXX1_fill_1 (kn K) x1 x2 x3 σ = some o) : gw_Mv l (kD K) vwCl (tyX K) (wX K) yX1_fill wsX1_fill rXX1_fill_1 [.ref (ka K 1), .int x1, .int x2, .int x3] σ o := by
  intro sz
  refine gw_body (cc := cX1_fill) (maxL := 4) (yret := none) (by decide +kernel) rfl ?_ (Nat.le_of_ble_eq_true rfl)
  intro p e s m below meth c F hsz hW ls hl
  exact wXX1_fill_1_0 F x1 x2 x3 σ o hf s.heap [] ls hl hW
abbrev rXX2_groupBlocks_3 : Room := { frames := 0, cells := 0, slots := 0, locals := 0 }
set_option maxHeartbeats 4000000 in
set_option maxRecDepth 100000 in
theorem wXX2_groupBlocks_3_0 {p : Program} {l : Launch} {e : Env} {s : State} {m : MethodId} {args : Array Value} {below : List Frame} {meth : Method} {c : Code} {A : Nat → Prop} {K : KX} (F : fx_ p s m args meth c cX2_groupBlocks 1 (some .int) RX2 wsX2_groupBlocks) (σ : XS) (o : (Int32 × XS)) (hf : fXX2_groupBlocks_3_0 (kn K) σ = some o) (H : Heap) (locs : List Loc) (ls : Array Slot) (hl : lv_has ls 1 [(0, .ref (ka K 3))]) (hW : gw_ (kD K) vwCl (tyX K) (wX K) A s σ H locs) : W p l e rXX2_groupBlocks_3 s m args below meth c H locs 0 0 (MQ below (gw_Qi (kD K) vwCl (tyX K) (wX K) A o) args s rXX2_groupBlocks_3.cells rXX2_groupBlocks_3.slots A) (F0 m 0 ls []) := by
  have hx := F.1
  have hb := F.2.1
  have hml := F.2.2.2.1
  have hown := F.2.2.2.2.1
  have hts := F.2.2.2.2.2.1
  have hG : ∀ x ∈ gT, x.before args s = true := fun x h => hts x (List.mem_cons_of_mem _ h)
  unfold fXX2_groupBlocks_3_0 at hf
  refine lv_aload_n hx hb dX2_groupBlocks_0 rfl (lv_at hl 0 rfl) ?_
  refine gw_get (v := .int (σ.1 2)) F inc_X2 hW 3 2 1 (aX_3 K σ) rfl (by decide) (hG _ q_1_65) (fun _ h9 => h9) rfl dX2_groupBlocks_1 ?_
  exact gw_reti F hW hf dX2_groupBlocks_4
set_option maxHeartbeats 4000000 in
set_option maxRecDepth 100000 in
theorem mXX2_groupBlocks_3 {l : Launch} {K : KX} {σ : XS} {o : (Int32 × XS)} (hf : fXX2_groupBlocks_3 (kn K) σ = some o) : gw_Mi l (kD K) vwCl (tyX K) (wX K) yX2_groupBlocks wsX2_groupBlocks rXX2_groupBlocks_3 [.ref (ka K 3)] σ o := by
  intro sz
  refine gw_body (cc := cX2_groupBlocks) (maxL := 1) (yret := some .int) (by decide +kernel) rfl ?_ (Nat.le_of_ble_eq_true rfl)
  intro p e s m below meth c F hsz hW ls hl
  exact wXX2_groupBlocks_3_0 F σ o hf s.heap [] ls hl hW
abbrev rXX2_fixedBlocks_3 : Room := { frames := 0, cells := 0, slots := 0, locals := 0 }
set_option maxHeartbeats 4000000 in
set_option maxRecDepth 100000 in
theorem wXX2_fixedBlocks_3_0 {p : Program} {l : Launch} {e : Env} {s : State} {m : MethodId} {args : Array Value} {below : List Frame} {meth : Method} {c : Code} {A : Nat → Prop} {K : KX} (F : fx_ p s m args meth c cX2_fixedBlocks 1 (some .int) RX2 wsX2_fixedBlocks) (σ : XS) (o : (Int32 × XS)) (hf : fXX2_fixedBlocks_3_0 (kn K) σ = some o) (H : Heap) (locs : List Loc) (ls : Array Slot) (hl : lv_has ls 1 [(0, .ref (ka K 3))]) (hW : gw_ (kD K) vwCl (tyX K) (wX K) A s σ H locs) : W p l e rXX2_fixedBlocks_3 s m args below meth c H locs 0 0 (MQ below (gw_Qi (kD K) vwCl (tyX K) (wX K) A o) args s rXX2_fixedBlocks_3.cells rXX2_fixedBlocks_3.slots A) (F0 m 0 ls []) := by
  have hx := F.1
  have hb := F.2.1
  have hml := F.2.2.2.1
  have hown := F.2.2.2.2.1
  have hts := F.2.2.2.2.2.1
  have hG : ∀ x ∈ gT, x.before args s = true := fun x h => hts x (List.mem_cons_of_mem _ h)
  unfold fXX2_fixedBlocks_3_0 at hf
  refine lv_iconst (v := (4 : Int32)) hx hb dX2_fixedBlocks_0 (by decide) ?_
  refine lv_aload_n hx hb dX2_fixedBlocks_1 rfl (lv_at hl 0 rfl) ?_
  refine gw_get (v := .int (σ.1 4)) F inc_X2 hW 3 2 3 (aX_3 K σ) rfl (by decide) (hG _ q_1_67) (fun _ h9 => h9) rfl dX2_fixedBlocks_2 ?_
  refine lv_bipush (v := (8 : Int32)) hx hb dX2_fixedBlocks_5 (by decide) ?_
  refine lv_idiv hx hb dX2_fixedBlocks_7 (by decide) ?_
  refine lv_iadd hx hb dX2_fixedBlocks_8 ?_
  exact gw_reti F hW hf dX2_fixedBlocks_9
set_option maxHeartbeats 4000000 in
set_option maxRecDepth 100000 in
theorem mXX2_fixedBlocks_3 {l : Launch} {K : KX} {σ : XS} {o : (Int32 × XS)} (hf : fXX2_fixedBlocks_3 (kn K) σ = some o) : gw_Mi l (kD K) vwCl (tyX K) (wX K) yX2_fixedBlocks wsX2_fixedBlocks rXX2_fixedBlocks_3 [.ref (ka K 3)] σ o := by
  intro sz
  refine gw_body (cc := cX2_fixedBlocks) (maxL := 1) (yret := some .int) (by decide +kernel) rfl ?_ (Nat.le_of_ble_eq_true rfl)
  intro p e s m below meth c F hsz hW ls hl
  exact wXX2_fixedBlocks_3_0 F σ o hf s.heap [] ls hl hW
abbrev rXX2_groups_3 : Room := { frames := 0, cells := 0, slots := 0, locals := 0 }
set_option maxHeartbeats 4000000 in
set_option maxRecDepth 100000 in
theorem wXX2_groups_3_0 {p : Program} {l : Launch} {e : Env} {s : State} {m : MethodId} {args : Array Value} {below : List Frame} {meth : Method} {c : Code} {A : Nat → Prop} {K : KX} (F : fx_ p s m args meth c cX2_groups 1 (some .int) RX2 wsX2_groups) (σ : XS) (o : (Int32 × XS)) (hf : fXX2_groups_3_0 (kn K) σ = some o) (H : Heap) (locs : List Loc) (ls : Array Slot) (hl : lv_has ls 1 [(0, .ref (ka K 3))]) (hW : gw_ (kD K) vwCl (tyX K) (wX K) A s σ H locs) : W p l e rXX2_groups_3 s m args below meth c H locs 0 0 (MQ below (gw_Qi (kD K) vwCl (tyX K) (wX K) A o) args s rXX2_groups_3.cells rXX2_groups_3.slots A) (F0 m 0 ls []) := by
  have hx := F.1
  have hb := F.2.1
  have hml := F.2.2.2.1
  have hown := F.2.2.2.2.1
  have hts := F.2.2.2.2.2.1
  have hG : ∀ x ∈ gT, x.before args s = true := fun x h => hts x (List.mem_cons_of_mem _ h)
  unfold fXX2_groups_3_0 at hf
  refine lv_aload_n hx hb dX2_groups_0 rfl (lv_at hl 0 rfl) ?_
  refine gw_get (v := .int (σ.1 3)) F inc_X2 hW 3 2 2 (aX_3 K σ) rfl (by decide) (hG _ q_1_66) (fun _ h9 => h9) rfl dX2_groups_1 ?_
  exact gw_reti F hW hf dX2_groups_4
set_option maxHeartbeats 4000000 in
set_option maxRecDepth 100000 in
theorem mXX2_groups_3 {l : Launch} {K : KX} {σ : XS} {o : (Int32 × XS)} (hf : fXX2_groups_3 (kn K) σ = some o) : gw_Mi l (kD K) vwCl (tyX K) (wX K) yX2_groups wsX2_groups rXX2_groups_3 [.ref (ka K 3)] σ o := by
  intro sz
  refine gw_body (cc := cX2_groups) (maxL := 1) (yret := some .int) (by decide +kernel) rfl ?_ (Nat.le_of_ble_eq_true rfl)
  intro p e s m below meth c F hsz hW ls hl
  exact wXX2_groups_3_0 F σ o hf s.heap [] ls hl hW
abbrev rXX2_partAt_3 : Room := { frames := 0, cells := 0, slots := 0, locals := 0 }
set_option maxHeartbeats 4000000 in
set_option maxRecDepth 100000 in
theorem wXX2_partAt_3_0 {p : Program} {l : Launch} {e : Env} {s : State} {m : MethodId} {args : Array Value} {below : List Frame} {meth : Method} {c : Code} {A : Nat → Prop} {K : KX} (F : fx_ p s m args meth c cX2_partAt 3 (some .int) RX2 wsX2_partAt) (x1 : Int32) (x2 : Int32) (σ : XS) (o : (Int32 × XS)) (hf : fXX2_partAt_3_0 (kn K) x1 x2 σ = some o) (H : Heap) (locs : List Loc) (ls : Array Slot) (hl : lv_has ls 3 [(0, .ref (ka K 3)), (1, .int x1), (2, .int x2)]) (hW : gw_ (kD K) vwCl (tyX K) (wX K) A s σ H locs) : W p l e rXX2_partAt_3 s m args below meth c H locs 0 0 (MQ below (gw_Qi (kD K) vwCl (tyX K) (wX K) A o) args s rXX2_partAt_3.cells rXX2_partAt_3.slots A) (F0 m 0 ls []) := by
  have hx := F.1
  have hb := F.2.1
  have hml := F.2.2.2.1
  have hown := F.2.2.2.2.1
  have hts := F.2.2.2.2.2.1
  have hG : ∀ x ∈ gT, x.before args s = true := fun x h => hts x (List.mem_cons_of_mem _ h)
  unfold fXX2_partAt_3_0 at hf
  refine lv_iconst (v := (1 : Int32)) hx hb dX2_partAt_0 (by decide) ?_
  refine lv_iload_n hx hb dX2_partAt_1 rfl (lv_at hl 1 rfl) ?_
  refine lv_aload_n hx hb dX2_partAt_2 rfl (lv_at hl 0 rfl) ?_
  refine gw_get (v := .int (σ.1 2)) F inc_X2 hW 3 2 1 (aX_3 K σ) rfl (by decide) (hG _ q_1_65) (fun _ h9 => h9) rfl dX2_partAt_3 ?_
  refine lv_imul hx hb dX2_partAt_6 ?_
  refine lv_iadd hx hb dX2_partAt_7 ?_
  refine lv_iload_n hx hb dX2_partAt_8 rfl (lv_at hl 2 rfl) ?_
  refine lv_iadd hx hb dX2_partAt_9 ?_
  refine lv_sipush (v := (1024 : Int32)) hx hb dX2_partAt_10 (by decide) ?_
  refine lv_imul hx hb dX2_partAt_13 ?_
  exact gw_reti F hW hf dX2_partAt_14
set_option maxHeartbeats 4000000 in
set_option maxRecDepth 100000 in
theorem mXX2_partAt_3 {l : Launch} {K : KX} {σ : XS} {x1 : Int32} {x2 : Int32} {o : (Int32 × XS)} (hf : fXX2_partAt_3 (kn K) x1 x2 σ = some o) : gw_Mi l (kD K) vwCl (tyX K) (wX K) yX2_partAt wsX2_partAt rXX2_partAt_3 [.ref (ka K 3), .int x1, .int x2] σ o := by
  intro sz
  refine gw_body (cc := cX2_partAt) (maxL := 3) (yret := some .int) (by decide +kernel) rfl ?_ (Nat.le_of_ble_eq_true rfl)
  intro p e s m below meth c F hsz hW ls hl
  exact wXX2_partAt_3_0 F x1 x2 σ o hf s.heap [] ls hl hW
abbrev rXX2_firstBlock_3 : Room := { frames := 0, cells := 0, slots := 0, locals := 0 }
set_option maxHeartbeats 4000000 in
set_option maxRecDepth 100000 in
theorem wXX2_firstBlock_3_0 {p : Program} {l : Launch} {e : Env} {s : State} {m : MethodId} {args : Array Value} {below : List Frame} {meth : Method} {c : Code} {A : Nat → Prop} {K : KX} (F : fx_ p s m args meth c cX2_firstBlock 2 (some .int) RX2 wsX2_firstBlock) (x1 : Int32) (σ : XS) (o : (Int32 × XS)) (hf : fXX2_firstBlock_3_0 (kn K) x1 σ = some o) (H : Heap) (locs : List Loc) (ls : Array Slot) (hl : lv_has ls 2 [(0, .ref (ka K 3)), (1, .int x1)]) (hW : gw_ (kD K) vwCl (tyX K) (wX K) A s σ H locs) : W p l e rXX2_firstBlock_3 s m args below meth c H locs 0 0 (MQ below (gw_Qi (kD K) vwCl (tyX K) (wX K) A o) args s rXX2_firstBlock_3.cells rXX2_firstBlock_3.slots A) (F0 m 0 ls []) := by
  have hx := F.1
  have hb := F.2.1
  have hml := F.2.2.2.1
  have hown := F.2.2.2.2.1
  have hts := F.2.2.2.2.2.1
  have hG : ∀ x ∈ gT, x.before args s = true := fun x h => hts x (List.mem_cons_of_mem _ h)
  unfold fXX2_firstBlock_3_0 at hf
  refine lv_iconst (v := (1 : Int32)) hx hb dX2_firstBlock_0 (by decide) ?_
  refine lv_iload_n hx hb dX2_firstBlock_1 rfl (lv_at hl 1 rfl) ?_
  refine lv_aload_n hx hb dX2_firstBlock_2 rfl (lv_at hl 0 rfl) ?_
  refine gw_get (v := .int (σ.1 2)) F inc_X2 hW 3 2 1 (aX_3 K σ) rfl (by decide) (hG _ q_1_65) (fun _ h9 => h9) rfl dX2_firstBlock_3 ?_
  refine lv_imul hx hb dX2_firstBlock_6 ?_
  refine lv_iadd hx hb dX2_firstBlock_7 ?_
  exact gw_reti F hW hf dX2_firstBlock_8
set_option maxHeartbeats 4000000 in
set_option maxRecDepth 100000 in
theorem mXX2_firstBlock_3 {l : Launch} {K : KX} {σ : XS} {x1 : Int32} {o : (Int32 × XS)} (hf : fXX2_firstBlock_3 (kn K) x1 σ = some o) : gw_Mi l (kD K) vwCl (tyX K) (wX K) yX2_firstBlock wsX2_firstBlock rXX2_firstBlock_3 [.ref (ka K 3), .int x1] σ o := by
  intro sz
  refine gw_body (cc := cX2_firstBlock) (maxL := 2) (yret := some .int) (by decide +kernel) rfl ?_ (Nat.le_of_ble_eq_true rfl)
  intro p e s m below meth c F hsz hW ls hl
  exact wXX2_firstBlock_3_0 F x1 σ o hf s.heap [] ls hl hW
abbrev rXX2_blocksIn_3 : Room := { frames := 1, cells := 0, slots := 0, locals := 21 }
set_option maxHeartbeats 4000000 in
set_option maxRecDepth 100000 in
theorem wXX2_blocksIn_3_0 {p : Program} {l : Launch} {e : Env} {s : State} {m : MethodId} {args : Array Value} {below : List Frame} {meth : Method} {c : Code} {A : Nat → Prop} {K : KX} (F : fx_ p s m args meth c cX2_blocksIn 2 (some .int) RX2 wsX2_blocksIn) (x1 : Int32) (σ : XS) (o : (Int32 × XS)) (hf : fXX2_blocksIn_3_0 (kn K) x1 σ = some o) (H : Heap) (locs : List Loc) (ls : Array Slot) (hl : lv_has ls 2 [(0, .ref (ka K 3)), (1, .int x1)]) (hW : gw_ (kD K) vwCl (tyX K) (wX K) A s σ H locs) : W p l e rXX2_blocksIn_3 s m args below meth c H locs 0 0 (MQ below (gw_Qi (kD K) vwCl (tyX K) (wX K) A o) args s rXX2_blocksIn_3.cells rXX2_blocksIn_3.slots A) (F0 m 0 ls []) := by
  have hx := F.1
  have hb := F.2.1
  have hml := F.2.2.2.1
  have hown := F.2.2.2.2.1
  have hts := F.2.2.2.2.2.1
  have hG : ∀ x ∈ gT, x.before args s = true := fun x h => hts x (List.mem_cons_of_mem _ h)
  unfold fXX2_blocksIn_3_0 at hf
  refine lv_aload_n hx hb dX2_blocksIn_0 rfl (lv_at hl 0 rfl) ?_
  refine gw_get (v := .int (σ.1 2)) F inc_X2 hW 3 2 1 (aX_3 K σ) rfl (by decide) (hG _ q_1_65) (fun _ h9 => h9) rfl dX2_blocksIn_1 ?_
  refine lv_aload_n hx hb dX2_blocksIn_4 rfl (lv_at hl 0 rfl) ?_
  refine gw_get (v := .int (Int32.ofNat (kn K))) F inc_X2 hW 3 2 0 (aX_3 K σ) rfl (by decide) (hG _ q_1_64) (fun _ h9 => h9) rfl dX2_blocksIn_5 ?_
  refine lv_aload_n hx hb dX2_blocksIn_8 rfl (lv_at hl 0 rfl) ?_
  refine lv_iload_n hx hb dX2_blocksIn_9 rfl (lv_at hl 1 rfl) ?_
  obtain ⟨o1, h2, hf⟩ := gw_bind hf
  refine gw_Vi (As := [.int x1]) (mc' := 0) (ms' := 0) F hW (mXX2_firstBlock_3 h2) (cwV 1 hts (gT_V q_3_31 q_2_82 q_2_83 q_1_4 q_2_84) rfl rfl rfl hdX2_firstBlock ⟨Nat.le_of_ble_eq_true rfl, Nat.le_of_ble_eq_true rfl⟩) 3 2 (aX_3 K σ) rfl rfl hl.1 rfl (Nat.le_of_ble_eq_true rfl) dX2_blocksIn_10 ⟨Nat.le_of_ble_eq_true rfl, Nat.le_of_ble_eq_true rfl⟩ rfl rfl (fun H locs hW => ?_)
  refine lv_isub hx hb dX2_blocksIn_13 ?_
  refine va_mmin (own := RX2) hx hb (hml.trans hl.1.symm) hown (hG _ q_3_32) (hG _ q_1_41) (hG _ q_1_2) (hG _ q_1_42) (Nat.le_of_ble_eq_true rfl) (Nat.le_of_ble_eq_true rfl) (Nat.le_of_ble_eq_true rfl) (Nat.le_of_ble_eq_true rfl) dX2_blocksIn_14 ?_
  exact gw_reti F hW hf dX2_blocksIn_17
set_option maxHeartbeats 4000000 in
set_option maxRecDepth 100000 in
theorem mXX2_blocksIn_3 {l : Launch} {K : KX} {σ : XS} {x1 : Int32} {o : (Int32 × XS)} (hf : fXX2_blocksIn_3 (kn K) x1 σ = some o) : gw_Mi l (kD K) vwCl (tyX K) (wX K) yX2_blocksIn wsX2_blocksIn rXX2_blocksIn_3 [.ref (ka K 3), .int x1] σ o := by
  intro sz
  refine gw_body (cc := cX2_blocksIn) (maxL := 2) (yret := some .int) (by decide +kernel) rfl ?_ (Nat.le_of_ble_eq_true rfl)
  intro p e s m below meth c F hsz hW ls hl
  exact wXX2_blocksIn_3_0 F x1 σ o hf s.heap [] ls hl hW
abbrev rXX3_realIn_4 : Room := { frames := 2, cells := 0, slots := 0, locals := 42 }
set_option maxHeartbeats 4000000 in
set_option maxRecDepth 100000 in
theorem wXX3_realIn_4_0 {p : Program} {l : Launch} {e : Env} {s : State} {m : MethodId} {args : Array Value} {below : List Frame} {meth : Method} {c : Code} {A : Nat → Prop} {K : KX} (F : fx_ p s m args meth c cX3_realIn 2 (some .int) RX3 wsX3_realIn) (x1 : Int32) (σ : XS) (o : (Int32 × XS)) (hf : fXX3_realIn_4_0 (kn K) x1 σ = some o) (H : Heap) (locs : List Loc) (ls : Array Slot) (hl : lv_has ls 2 [(0, .ref (ka K 4)), (1, .int x1)]) (hW : gw_ (kD K) vwCl (tyX K) (wX K) A s σ H locs) : W p l e rXX3_realIn_4 s m args below meth c H locs 0 0 (MQ below (gw_Qi (kD K) vwCl (tyX K) (wX K) A o) args s rXX3_realIn_4.cells rXX3_realIn_4.slots A) (F0 m 0 ls []) := by
  have hx := F.1
  have hb := F.2.1
  have hml := F.2.2.2.1
  have hown := F.2.2.2.2.1
  have hts := F.2.2.2.2.2.1
  have hG : ∀ x ∈ gT, x.before args s = true := fun x h => hts x (List.mem_cons_of_mem _ h)
  unfold fXX3_realIn_4_0 at hf
  refine lv_aload_n hx hb dX3_realIn_0 rfl (lv_at hl 0 rfl) ?_
  refine gw_get (v := .int (2 : Int32)) F inc_X3 hW 4 3 2 (aX_4 K σ) rfl (by decide) (hG _ q_1_85) (fun _ h9 => h9) rfl dX3_realIn_1 ?_
  refine lv_iconst (v := (2 : Int32)) hx hb dX3_realIn_4 (by decide) ?_
  refine lv_icmp_ne (tgt := 19) hx hb dX3_realIn_5 (by decide) (fun c1 => absurd c1 (by decide)) (fun c1 => ?_)
  refine lv_aload_n hx hb dX3_realIn_8 rfl (lv_at hl 0 rfl) ?_
  refine gw_get (v := .ref (ka K 3)) F inc_X3 hW 4 3 1 (aX_4 K σ) rfl (by decide) (hG _ q_1_84) (fun _ h9 => h9) rfl dX3_realIn_9 ?_
  refine lv_iload_n hx hb dX3_realIn_12 rfl (lv_at hl 1 rfl) ?_
  obtain ⟨o2, h3, hf⟩ := gw_bind hf
  refine gw_Vi (As := [.int x1]) (mc' := 0) (ms' := 0) F hW (mXX2_blocksIn_3 h3) (cwV 1 hts (gT_V q_3_27 q_3_28 q_3_29 q_1_4 q_3_30) rfl rfl rfl hdX2_blocksIn ⟨Nat.le_of_ble_eq_true rfl, Nat.le_of_ble_eq_true rfl⟩) 3 2 (aX_3 K σ) rfl rfl hl.1 rfl (Nat.le_of_ble_eq_true rfl) dX3_realIn_13 ⟨Nat.le_of_ble_eq_true rfl, Nat.le_of_ble_eq_true rfl⟩ rfl rfl (fun H locs hW => ?_)
  refine lv_goto (tgt := 26) hx hb dX3_realIn_16 (by decide) ?_
  exact gw_reti F hW hf dX3_realIn_26
set_option maxHeartbeats 4000000 in
set_option maxRecDepth 100000 in
theorem mXX3_realIn_4 {l : Launch} {K : KX} {σ : XS} {x1 : Int32} {o : (Int32 × XS)} (hf : fXX3_realIn_4 (kn K) x1 σ = some o) : gw_Mi l (kD K) vwCl (tyX K) (wX K) yX3_realIn wsX3_realIn rXX3_realIn_4 [.ref (ka K 4), .int x1] σ o := by
  intro sz
  refine gw_body (cc := cX3_realIn) (maxL := 2) (yret := some .int) (by decide +kernel) rfl ?_ (Nat.le_of_ble_eq_true rfl)
  intro p e s m below meth c F hsz hW ls hl
  exact wXX3_realIn_4_0 F x1 σ o hf s.heap [] ls hl hW
abbrev rXX1_get_1 : Room := { frames := 0, cells := 0, slots := 0, locals := 0 }
set_option maxHeartbeats 4000000 in
set_option maxRecDepth 100000 in
theorem wXX1_get_1_0 {p : Program} {l : Launch} {e : Env} {s : State} {m : MethodId} {args : Array Value} {below : List Frame} {meth : Method} {c : Code} {A : Nat → Prop} {K : KX} (F : fx_ p s m args meth c cX1_get 2 (some .int) RX1 wsX1_get) (x1 : Int32) (σ : XS) (o : (Int32 × XS)) (hf : fXX1_get_1_0 (kn K) x1 σ = some o) (H : Heap) (locs : List Loc) (ls : Array Slot) (hl : lv_has ls 2 [(0, .ref (ka K 1)), (1, .int x1)]) (hW : gw_ (kD K) vwCl (tyX K) (wX K) A s σ H locs) : W p l e rXX1_get_1 s m args below meth c H locs 0 0 (MQ below (gw_Qi (kD K) vwCl (tyX K) (wX K) A o) args s rXX1_get_1.cells rXX1_get_1.slots A) (F0 m 0 ls []) := by
  have hx := F.1
  have hb := F.2.1
  have hml := F.2.2.2.1
  have hown := F.2.2.2.2.1
  have hts := F.2.2.2.2.2.1
  have hG : ∀ x ∈ gT, x.before args s = true := fun x h => hts x (List.mem_cons_of_mem _ h)
  unfold fXX1_get_1_0 at hf
  refine lv_iload_n hx hb dX1_get_0 rfl (lv_at hl 1 rfl) ?_
  refine lv_if_lt (tgt := 26) hx hb dX1_get_1 (by decide) (fun c1 => ?_) (fun c1 => ?_)
  · replace hf := (if_pos c1).symm.trans hf
    refine lv_iconst (v := (0 : Int32)) hx hb dX1_get_26 (by decide) ?_
    exact gw_reti F hW hf dX1_get_27
  · replace hf := (if_neg c1).symm.trans hf
    refine lv_iload_n hx hb dX1_get_4 rfl (lv_at hl 1 rfl) ?_
    refine lv_aload_n hx hb dX1_get_5 rfl (lv_at hl 0 rfl) ?_
    refine gw_get (v := .ref (ka K 2)) F inc_X1 hW 1 1 0 (aX_1 K σ) rfl (by decide) (hG _ q_1_53) (fun _ h9 => h9) rfl dX1_get_6 ?_
    refine gw_alen F hW 2 0 (aX_2 K σ) rfl dX1_get_9 ?_
    refine lv_icmp_ge (tgt := 26) hx hb dX1_get_10 (by decide) (fun c2 => ?_) (fun c2 => ?_)
    · replace hf := (if_pos c2).symm.trans hf
      refine lv_iconst (v := (0 : Int32)) hx hb dX1_get_26 (by decide) ?_
      exact gw_reti F hW hf dX1_get_27
    · replace hf := (if_neg c2).symm.trans hf
      refine lv_aload_n hx hb dX1_get_13 rfl (lv_at hl 0 rfl) ?_
      refine gw_get (v := .ref (ka K 2)) F inc_X1 hW 1 1 0 (aX_1 K σ) rfl (by decide) (hG _ q_1_53) (fun _ h9 => h9) rfl dX1_get_14 ?_
      refine lv_iload_n hx hb dX1_get_17 rfl (lv_at hl 1 rfl) ?_
      rcases Decidable.em (x1 < 0 ∨ ((kn K) * 1024) ≤ x1.toNatClampNeg) with c3 | c3
      · replace hf := (if_pos c3).symm.trans hf
        exact absurd hf (by simp)
      · replace hf := (if_neg c3).symm.trans hf
        refine gw_bald F hW 2 0 (aX_2 K σ) rfl c3 dX1_get_18 ?_
        refine lv_sipush (v := (255 : Int32)) hx hb dX1_get_19 (by decide) ?_
        refine lv_iand hx hb dX1_get_22 ?_
        refine lv_goto (tgt := 27) hx hb dX1_get_23 (by decide) ?_
        exact gw_reti F hW hf dX1_get_27
set_option maxHeartbeats 4000000 in
set_option maxRecDepth 100000 in
theorem mXX1_get_1 {l : Launch} {K : KX} {σ : XS} {x1 : Int32} {o : (Int32 × XS)} (hf : fXX1_get_1 (kn K) x1 σ = some o) : gw_Mi l (kD K) vwCl (tyX K) (wX K) yX1_get wsX1_get rXX1_get_1 [.ref (ka K 1), .int x1] σ o := by
  intro sz
  refine gw_body (cc := cX1_get) (maxL := 2) (yret := some .int) (by decide +kernel) rfl ?_ (Nat.le_of_ble_eq_true rfl)
  intro p e s m below meth c F hsz hW ls hl
  exact wXX1_get_1_0 F x1 σ o hf s.heap [] ls hl hW
abbrev rXX1_put_1 : Room := { frames := 0, cells := 0, slots := 0, locals := 0 }
set_option maxHeartbeats 4000000 in
set_option maxRecDepth 100000 in
theorem wXX1_put_1_0 {p : Program} {l : Launch} {e : Env} {s : State} {m : MethodId} {args : Array Value} {below : List Frame} {meth : Method} {c : Code} {A : Nat → Prop} {K : KX} (F : fx_ p s m args meth c cX1_put 3 none RX1 wsX1_put) (x1 : Int32) (x2 : Int32) (σ : XS) (o : XS) (hf : fXX1_put_1_0 (kn K) x1 x2 σ = some o) (H : Heap) (locs : List Loc) (ls : Array Slot) (hl : lv_has ls 3 [(0, .ref (ka K 1)), (1, .int x1), (2, .int x2)]) (hW : gw_ (kD K) vwCl (tyX K) (wX K) A s σ H locs) : W p l e rXX1_put_1 s m args below meth c H locs 0 0 (MQ below (gw_Qv (kD K) vwCl (tyX K) (wX K) A o) args s rXX1_put_1.cells rXX1_put_1.slots A) (F0 m 0 ls []) := by
  have hx := F.1
  have hb := F.2.1
  have hml := F.2.2.2.1
  have hown := F.2.2.2.2.1
  have hts := F.2.2.2.2.2.1
  have hG : ∀ x ∈ gT, x.before args s = true := fun x h => hts x (List.mem_cons_of_mem _ h)
  unfold fXX1_put_1_0 at hf
  refine lv_iload_n hx hb dX1_put_0 rfl (lv_at hl 1 rfl) ?_
  refine lv_if_lt (tgt := 21) hx hb dX1_put_1 (by decide) (fun c1 => ?_) (fun c1 => ?_)
  · replace hf := (if_pos c1).symm.trans hf
    exact gw_retv F hW hf dX1_put_21
  · replace hf := (if_neg c1).symm.trans hf
    refine lv_iload_n hx hb dX1_put_4 rfl (lv_at hl 1 rfl) ?_
    refine lv_aload_n hx hb dX1_put_5 rfl (lv_at hl 0 rfl) ?_
    refine gw_get (v := .ref (ka K 2)) F inc_X1 hW 1 1 0 (aX_1 K σ) rfl (by decide) (hG _ q_1_53) (fun _ h9 => h9) rfl dX1_put_6 ?_
    refine gw_alen F hW 2 0 (aX_2 K σ) rfl dX1_put_9 ?_
    refine lv_icmp_ge (tgt := 21) hx hb dX1_put_10 (by decide) (fun c2 => ?_) (fun c2 => ?_)
    · replace hf := (if_pos c2).symm.trans hf
      exact gw_retv F hW hf dX1_put_21
    · replace hf := (if_neg c2).symm.trans hf
      refine lv_aload_n hx hb dX1_put_13 rfl (lv_at hl 0 rfl) ?_
      refine gw_get (v := .ref (ka K 2)) F inc_X1 hW 1 1 0 (aX_1 K σ) rfl (by decide) (hG _ q_1_53) (fun _ h9 => h9) rfl dX1_put_14 ?_
      refine lv_iload_n hx hb dX1_put_17 rfl (lv_at hl 1 rfl) ?_
      refine lv_iload_n hx hb dX1_put_18 rfl (lv_at hl 2 rfl) ?_
      refine lv_i2b (v := x2.toInt8.toInt32) hx hb dX1_put_19 rfl ?_
      rcases Decidable.em (x1 < 0 ∨ ((kn K) * 1024) ≤ x1.toNatClampNeg) with c3 | c3
      · replace hf := (if_pos c3).symm.trans hf
        exact absurd hf (by simp)
      · replace hf := (if_neg c3).symm.trans hf
        refine gw_bast (σ' := (stA σ 0 x1.toNatClampNeg (vp_nar .byte x2.toInt8.toInt32))) F hW 2 0 (aX_2 K σ) rfl c3 dX1_put_20 (sAX_0 _ _ _) (fun H locs hW => ?_)
        exact gw_retv F hW hf dX1_put_21
set_option maxHeartbeats 4000000 in
set_option maxRecDepth 100000 in
theorem mXX1_put_1 {l : Launch} {K : KX} {σ : XS} {x1 : Int32} {x2 : Int32} {o : XS} (hf : fXX1_put_1 (kn K) x1 x2 σ = some o) : gw_Mv l (kD K) vwCl (tyX K) (wX K) yX1_put wsX1_put rXX1_put_1 [.ref (ka K 1), .int x1, .int x2] σ o := by
  intro sz
  refine gw_body (cc := cX1_put) (maxL := 3) (yret := none) (by decide +kernel) rfl ?_ (Nat.le_of_ble_eq_true rfl)
  intro p e s m below meth c F hsz hW ls hl
  exact wXX1_put_1_0 F x1 x2 σ o hf s.heap [] ls hl hW
abbrev rXX3_lay_4 : Room := { frames := 3, cells := 0, slots := 0, locals := 69 }
def PXX3_lay_4_94 (p : Program) (l : Launch) (e : Env) (s : State) (m : MethodId) (args : Array Value) (below : List Frame) (meth : Method) (c : Code) (A : Nat → Prop) (K : KX) (t : (Int32 × Int32 × Int32 × Int32 × XS)) (o : XS) : Prop := ∀ (H : Heap) (locs : List Loc) (ls : Array Slot), lv_has ls 5 [(0, .ref (ka K 4)), (1, .int t.1), (2, .int t.2.1), (3, .int t.2.2.1), (4, .int t.2.2.2.1)] → gw_ (kD K) vwCl (tyX K) (wX K) A s t.2.2.2.2 H locs → W p l e rXX3_lay_4 s m args below meth c H locs 0 0 (MQ below (gw_Qv (kD K) vwCl (tyX K) (wX K) A o) args s rXX3_lay_4.cells rXX3_lay_4.slots A) (F0 m 94 ls [])
def PXX3_lay_4_51 (p : Program) (l : Launch) (e : Env) (s : State) (m : MethodId) (args : Array Value) (below : List Frame) (meth : Method) (c : Code) (A : Nat → Prop) (K : KX) (t : (Int32 × Int32 × XS)) (o : XS) : Prop := ∀ (H : Heap) (locs : List Loc) (ls : Array Slot), lv_has ls 5 [(0, .ref (ka K 4)), (1, .int t.1), (2, .int t.2.1)] → gw_ (kD K) vwCl (tyX K) (wX K) A s t.2.2 H locs → W p l e rXX3_lay_4 s m args below meth c H locs 0 0 (MQ below (gw_Qv (kD K) vwCl (tyX K) (wX K) A o) args s rXX3_lay_4.cells rXX3_lay_4.slots A) (F0 m 51 ls [])
set_option maxHeartbeats 4000000 in
set_option maxRecDepth 100000 in
theorem wXX3_lay_4_94 {p : Program} {l : Launch} {e : Env} {s : State} {m : MethodId} {args : Array Value} {below : List Frame} {meth : Method} {c : Code} {A : Nat → Prop} {K : KX} (F : fx_ p s m args meth c cX3_lay 5 none RX3 wsX3_lay) {k51 : (Int32 × Int32 × XS) → Option XS} (hk51 : ∀ t o, k51 t = some o → PXX3_lay_4_51 p l e s m args below meth c A K t o) {k94 : (Int32 × Int32 × Int32 × Int32 × XS) → Option XS} (hk94 : ∀ t o, k94 t = some o → PXX3_lay_4_94 p l e s m args below meth c A K t o) (x1 : Int32) (x2 : Int32) (x3 : Int32) (x4 : Int32) (σ : XS) (o : XS) (hf : fXX3_lay_4_94 (kn K) k51 k94 x1 x2 x3 x4 σ = some o) (H : Heap) (locs : List Loc) (ls : Array Slot) (hl : lv_has ls 5 [(0, .ref (ka K 4)), (1, .int x1), (2, .int x2), (3, .int x3), (4, .int x4)]) (hW : gw_ (kD K) vwCl (tyX K) (wX K) A s σ H locs) : W p l e rXX3_lay_4 s m args below meth c H locs 0 0 (MQ below (gw_Qv (kD K) vwCl (tyX K) (wX K) A o) args s rXX3_lay_4.cells rXX3_lay_4.slots A) (F0 m 94 ls []) := by
  have hx := F.1
  have hb := F.2.1
  have hml := F.2.2.2.1
  have hown := F.2.2.2.2.1
  have hts := F.2.2.2.2.2.1
  have hG : ∀ x ∈ gT, x.before args s = true := fun x h => hts x (List.mem_cons_of_mem _ h)
  unfold fXX3_lay_4_94 at hf
  refine lv_iload hx hb dX3_lay_94 (lv_at hl 4 rfl) ?_
  refine lv_aload_n hx hb dX3_lay_96 rfl (lv_at hl 0 rfl) ?_
  refine lv_iload_n hx hb dX3_lay_97 rfl (lv_at hl 2 rfl) ?_
  obtain ⟨o19, h20, hf⟩ := gw_bind hf
  refine gw_Vi (As := [.int x2]) (mc' := 0) (ms' := 0) F hW (mXX3_realIn_4 h20) (cwV 1 hts (gT_V q_3_23 q_3_25 qp_19 q_1_5 q_3_26) rfl rfl rfl hdX3_realIn ⟨Nat.le_of_ble_eq_true rfl, Nat.le_of_ble_eq_true rfl⟩) 4 3 (aX_4 K σ) rfl rfl hl.1 rfl (Nat.le_of_ble_eq_true rfl) dX3_lay_98 ⟨Nat.le_of_ble_eq_true rfl, Nat.le_of_ble_eq_true rfl⟩ rfl rfl (fun H locs hW => ?_)
  refine lv_icmp_ge (tgt := 148) hx hb dX3_lay_101 (by decide) (fun c22 => ?_) (fun c22 => ?_)
  · replace hf := (if_pos c22).symm.trans hf
    refine lv_iinc (v := (x2 + (1 : Int32))) (lv' := [(2, .int (x2 + (1 : Int32))), (0, .ref (ka K 4)), (1, .int x1), (3, .int x3), (4, .int x4)]) hx hb dX3_lay_148 hl (k := 2) rfl rfl (by decide) rfl (fun ls hl => ?_)
    refine lv_goto (tgt := 51) hx hb dX3_lay_151 (by decide) ?_
    exact hk51 _ _ hf _ _ _ (lv_sub hl [1, 2, 0] rfl) hW
  · replace hf := (if_neg c22).symm.trans hf
    refine lv_aload_n hx hb dX3_lay_104 rfl (lv_at hl 0 rfl) ?_
    refine gw_get (v := .ref (ka K 1)) F inc_X3 hW 4 3 0 (aX_4 K o19.2) rfl (by decide) (hG _ q_1_83) (fun _ h9 => h9) rfl dX3_lay_105 ?_
    refine lv_iload_n hx hb dX3_lay_108 rfl (lv_at hl 3 rfl) ?_
    refine lv_iload hx hb dX3_lay_109 (lv_at hl 4 rfl) ?_
    refine lv_bipush (v := (8 : Int32)) hx hb dX3_lay_111 (by decide) ?_
    refine lv_idiv hx hb dX3_lay_113 (by decide) ?_
    refine lv_iadd hx hb dX3_lay_114 ?_
    refine lv_aload_n hx hb dX3_lay_115 rfl (lv_at hl 0 rfl) ?_
    refine gw_get (v := .ref (ka K 1)) F inc_X3 hW 4 3 0 (aX_4 K o19.2) rfl (by decide) (hG _ q_1_83) (fun _ h9 => h9) rfl dX3_lay_116 ?_
    refine lv_iload_n hx hb dX3_lay_119 rfl (lv_at hl 3 rfl) ?_
    refine lv_iload hx hb dX3_lay_120 (lv_at hl 4 rfl) ?_
    refine lv_bipush (v := (8 : Int32)) hx hb dX3_lay_122 (by decide) ?_
    refine lv_idiv hx hb dX3_lay_124 (by decide) ?_
    refine lv_iadd hx hb dX3_lay_125 ?_
    obtain ⟨o23, h24, hf⟩ := gw_bind hf
    refine gw_Vi (As := [.int (x3 + (x4 / (8 : Int32)))]) (mc' := 0) (ms' := 0) F hW (mXX1_get_1 h24) (cwV 1 hts (gT_V q_2_55 q_2_56 q_2_57 q_1_3 q_2_58) rfl rfl rfl hdX1_get ⟨Nat.le_of_ble_eq_true rfl, Nat.le_of_ble_eq_true rfl⟩) 1 1 (aX_1 K o19.2) rfl rfl hl.1 rfl (Nat.le_of_ble_eq_true rfl) dX3_lay_126 ⟨Nat.le_of_ble_eq_true rfl, Nat.le_of_ble_eq_true rfl⟩ rfl rfl (fun H locs hW => ?_)
    refine lv_iconst (v := (1 : Int32)) hx hb dX3_lay_129 (by decide) ?_
    refine lv_iload hx hb dX3_lay_130 (lv_at hl 4 rfl) ?_
    refine lv_bipush (v := (8 : Int32)) hx hb dX3_lay_132 (by decide) ?_
    refine lv_irem hx hb dX3_lay_134 (by decide) ?_
    refine lv_ishl hx hb dX3_lay_135 ?_
    refine lv_iconst (v := (-1 : Int32)) hx hb dX3_lay_136 (by decide) ?_
    refine lv_ixor hx hb dX3_lay_137 ?_
    refine lv_iand hx hb dX3_lay_138 ?_
    obtain ⟨o26, h27, hf⟩ := gw_bind hf
    refine gw_Vv (As := [.int (x3 + (x4 / (8 : Int32))), .int (o23.1 &&& (((1 : Int32) <<< ((x4 - x4 / (8 : Int32) * (8 : Int32)) &&& 31)) ^^^ (-1 : Int32)))]) (mc' := 0) (ms' := 0) F hW (mXX1_put_1 h27) (cwV 2 hts (gT_V q_4_218 q_4_219 q_4_220 q_1_3 q_4_221) rfl rfl rfl hdX1_put ⟨Nat.le_of_ble_eq_true rfl, Nat.le_of_ble_eq_true rfl⟩) 1 1 (aX_1 K o23.2) rfl rfl hl.1 rfl (Nat.le_of_ble_eq_true rfl) dX3_lay_139 ⟨Nat.le_of_ble_eq_true rfl, Nat.le_of_ble_eq_true rfl⟩ rfl rfl (fun H locs hW => ?_)
    refine lv_iinc (v := (x4 + (1 : Int32))) (lv' := [(4, .int (x4 + (1 : Int32))), (0, .ref (ka K 4)), (1, .int x1), (2, .int x2), (3, .int x3)]) hx hb dX3_lay_142 hl (k := 4) rfl rfl (by decide) rfl (fun ls hl => ?_)
    refine lv_goto (tgt := 94) hx hb dX3_lay_145 (by decide) ?_
    exact hk94 _ _ hf _ _ _ (lv_sub hl [1, 2, 3, 4, 0] rfl) hW
set_option maxHeartbeats 4000000 in
set_option maxRecDepth 100000 in
theorem wXX3_lay_4_51 {p : Program} {l : Launch} {e : Env} {s : State} {m : MethodId} {args : Array Value} {below : List Frame} {meth : Method} {c : Code} {A : Nat → Prop} {K : KX} (F : fx_ p s m args meth c cX3_lay 5 none RX3 wsX3_lay) {k51 : (Int32 × Int32 × XS) → Option XS} (hk51 : ∀ t o, k51 t = some o → PXX3_lay_4_51 p l e s m args below meth c A K t o) (x1 : Int32) (x2 : Int32) (σ : XS) (o : XS) (hf : fXX3_lay_4_51 (kn K) k51 x1 x2 σ = some o) (H : Heap) (locs : List Loc) (ls : Array Slot) (hl : lv_has ls 5 [(0, .ref (ka K 4)), (1, .int x1), (2, .int x2)]) (hW : gw_ (kD K) vwCl (tyX K) (wX K) A s σ H locs) : W p l e rXX3_lay_4 s m args below meth c H locs 0 0 (MQ below (gw_Qv (kD K) vwCl (tyX K) (wX K) A o) args s rXX3_lay_4.cells rXX3_lay_4.slots A) (F0 m 51 ls []) := by
  have hx := F.1
  have hb := F.2.1
  have hml := F.2.2.2.1
  have hown := F.2.2.2.2.1
  have hts := F.2.2.2.2.2.1
  have hG : ∀ x ∈ gT, x.before args s = true := fun x h => hts x (List.mem_cons_of_mem _ h)
  unfold fXX3_lay_4_51 at hf
  refine lv_iload_n hx hb dX3_lay_51 rfl (lv_at hl 2 rfl) ?_
  refine lv_aload_n hx hb dX3_lay_52 rfl (lv_at hl 0 rfl) ?_
  refine gw_get (v := .ref (ka K 3)) F inc_X3 hW 4 3 1 (aX_4 K σ) rfl (by decide) (hG _ q_1_84) (fun _ h9 => h9) rfl dX3_lay_53 ?_
  obtain ⟨o9, h10, hf⟩ := gw_bind hf
  refine gw_Vi (As := []) (mc' := 0) (ms' := 0) F hW (mXX2_groups_3 h10) (cwV 0 hts (gT_V q_4_216 q_2_74 q_2_75 q_1_4 q_2_76) rfl rfl rfl hdX2_groups ⟨Nat.le_of_ble_eq_true rfl, Nat.le_of_ble_eq_true rfl⟩) 3 2 (aX_3 K σ) rfl rfl hl.1 rfl (Nat.le_of_ble_eq_true rfl) dX3_lay_56 ⟨Nat.le_of_ble_eq_true rfl, Nat.le_of_ble_eq_true rfl⟩ rfl rfl (fun H locs hW => ?_)
  refine lv_icmp_ge (tgt := 154) hx hb dX3_lay_59 (by decide) (fun c12 => ?_) (fun c12 => ?_)
  · replace hf := (if_pos c12).symm.trans hf
    exact gw_retv F hW hf dX3_lay_154
  · replace hf := (if_neg c12).symm.trans hf
    refine lv_aload_n hx hb dX3_lay_62 rfl (lv_at hl 0 rfl) ?_
    refine gw_get (v := .ref (ka K 3)) F inc_X3 hW 4 3 1 (aX_4 K o9.2) rfl (by decide) (hG _ q_1_84) (fun _ h9 => h9) rfl dX3_lay_63 ?_
    refine lv_iload_n hx hb dX3_lay_66 rfl (lv_at hl 2 rfl) ?_
    refine lv_aload_n hx hb dX3_lay_67 rfl (lv_at hl 0 rfl) ?_
    refine gw_get (v := .int (2 : Int32)) F inc_X3 hW 4 3 2 (aX_4 K o9.2) rfl (by decide) (hG _ q_1_85) (fun _ h9 => h9) rfl dX3_lay_68 ?_
    obtain ⟨o13, h14, hf⟩ := gw_bind hf
    refine gw_Vi (As := [.int x2, .int (2 : Int32)]) (mc' := 0) (ms' := 0) F hW (mXX2_partAt_3 h14) (cwV 2 hts (gT_V q_2_51 q_2_52 q_2_53 q_1_4 q_2_54) rfl rfl rfl hdX2_partAt ⟨Nat.le_of_ble_eq_true rfl, Nat.le_of_ble_eq_true rfl⟩) 3 2 (aX_3 K o9.2) rfl rfl hl.1 rfl (Nat.le_of_ble_eq_true rfl) dX3_lay_71 ⟨Nat.le_of_ble_eq_true rfl, Nat.le_of_ble_eq_true rfl⟩ rfl rfl (fun H locs hW => ?_)
    refine lv_istore_n (lv' := [(3, .int o13.1), (0, .ref (ka K 4)), (1, .int x1), (2, .int x2)]) hx hb dX3_lay_74 rfl hl (by decide) rfl (fun ls hl => ?_)
    refine lv_aload_n hx hb dX3_lay_75 rfl (lv_at hl 1 rfl) ?_
    refine gw_get (v := .ref (ka K 1)) F inc_X3 hW 4 3 0 (aX_4 K o13.2) rfl (by decide) (hG _ q_1_83) (fun _ h9 => h9) rfl dX3_lay_76 ?_
    refine lv_iload_n hx hb dX3_lay_79 rfl (lv_at hl 0 rfl) ?_
    refine lv_iload_n hx hb dX3_lay_80 rfl (lv_at hl 0 rfl) ?_
    refine lv_sipush (v := (1024 : Int32)) hx hb dX3_lay_81 (by decide) ?_
    refine lv_iadd hx hb dX3_lay_84 ?_
    refine lv_sipush (v := (255 : Int32)) hx hb dX3_lay_85 (by decide) ?_
    obtain ⟨o16, h17, hf⟩ := gw_bind hf
    refine gw_Vv (As := [.int o13.1, .int (o13.1 + (1024 : Int32)), .int (255 : Int32)]) (mc' := 0) (ms' := 0) F hW (mXX1_fill_1 h17) (cwV 3 hts (gT_V q_4_217 q_3_42 q_3_43 q_1_3 q_3_44) rfl rfl rfl hdX1_fill ⟨Nat.le_of_ble_eq_true rfl, Nat.le_of_ble_eq_true rfl⟩) 1 1 (aX_1 K o13.2) rfl rfl hl.1 rfl (Nat.le_of_ble_eq_true rfl) dX3_lay_88 ⟨Nat.le_of_ble_eq_true rfl, Nat.le_of_ble_eq_true rfl⟩ rfl rfl (fun H locs hW => ?_)
    refine lv_iload_n hx hb dX3_lay_91 rfl (lv_at hl 2 rfl) ?_
    refine lv_istore (lv' := [(4, .int x1), (3, .int o13.1), (0, .ref (ka K 4)), (1, .int x1), (2, .int x2)]) hx hb dX3_lay_92 hl (by decide) rfl (fun ls hl => ?_)
    exact lfix_ind (P := PXX3_lay_4_94 p l e s m args below meth c A K) (fun k94 hk94 t o hf => wXX3_lay_4_94 F hk51 hk94 t.1 t.2.1 t.2.2.1 t.2.2.2.1 t.2.2.2.2 o hf) FU _ _ hf _ _ _ (lv_sub hl [2, 3, 4, 1, 0] rfl) hW
set_option maxHeartbeats 4000000 in
set_option maxRecDepth 100000 in
theorem wXX3_lay_4_48 {p : Program} {l : Launch} {e : Env} {s : State} {m : MethodId} {args : Array Value} {below : List Frame} {meth : Method} {c : Code} {A : Nat → Prop} {K : KX} (F : fx_ p s m args meth c cX3_lay 5 none RX3 wsX3_lay) (y0 : Int32) (σ : XS) (o : XS) (hf : fXX3_lay_4_48 (kn K) y0 σ = some o) (H : Heap) (locs : List Loc) (ls : Array Slot) (hl : lv_has ls 5 [(0, .ref (ka K 4))]) (hW : gw_ (kD K) vwCl (tyX K) (wX K) A s σ H locs) : W p l e rXX3_lay_4 s m args below meth c H locs 0 0 (MQ below (gw_Qv (kD K) vwCl (tyX K) (wX K) A o) args s rXX3_lay_4.cells rXX3_lay_4.slots A) (F0 m 48 ls [.int y0]) := by
  have hx := F.1
  have hb := F.2.1
  have hml := F.2.2.2.1
  have hown := F.2.2.2.2.1
  have hts := F.2.2.2.2.2.1
  have hG : ∀ x ∈ gT, x.before args s = true := fun x h => hts x (List.mem_cons_of_mem _ h)
  unfold fXX3_lay_4_48 at hf
  refine lv_istore_n (lv' := [(1, .int y0), (0, .ref (ka K 4))]) hx hb dX3_lay_48 rfl hl (by decide) rfl (fun ls hl => ?_)
  refine lv_iconst (v := (0 : Int32)) hx hb dX3_lay_49 (by decide) ?_
  refine lv_istore_n (lv' := [(2, .int (0 : Int32)), (1, .int y0), (0, .ref (ka K 4))]) hx hb dX3_lay_50 rfl hl (by decide) rfl (fun ls hl => ?_)
  exact lfix_ind (P := PXX3_lay_4_51 p l e s m args below meth c A K) (fun k51 hk51 t o hf => wXX3_lay_4_51 F hk51 t.1 t.2.1 t.2.2 o hf) FU _ _ hf _ _ _ (lv_sub hl [2, 1, 0] rfl) hW
set_option maxHeartbeats 4000000 in
set_option maxRecDepth 100000 in
theorem wXX3_lay_4_26 {p : Program} {l : Launch} {e : Env} {s : State} {m : MethodId} {args : Array Value} {below : List Frame} {meth : Method} {c : Code} {A : Nat → Prop} {K : KX} (F : fx_ p s m args meth c cX3_lay 5 none RX3 wsX3_lay) (y0 : Int32) (σ : XS) (o : XS) (hf : fXX3_lay_4_26 (kn K) y0 σ = some o) (H : Heap) (locs : List Loc) (ls : Array Slot) (hl : lv_has ls 5 [(0, .ref (ka K 4))]) (hW : gw_ (kD K) vwCl (tyX K) (wX K) A s σ H locs) : W p l e rXX3_lay_4 s m args below meth c H locs 0 0 (MQ below (gw_Qv (kD K) vwCl (tyX K) (wX K) A o) args s rXX3_lay_4.cells rXX3_lay_4.slots A) (F0 m 26 ls [.int y0, .ref (ka K 4)]) := by
  have hx := F.1
  have hb := F.2.1
  have hml := F.2.2.2.1
  have hown := F.2.2.2.2.1
  have hts := F.2.2.2.2.2.1
  have hG : ∀ x ∈ gT, x.before args s = true := fun x h => hts x (List.mem_cons_of_mem _ h)
  unfold fXX3_lay_4_26 at hf
  refine gw_put (σ' := (stS σ 5 y0)) (ty := .int) F inc_X3 tyX3 tyX3_ok nmX3 hW 4 3 5 (aX_4 K σ) rfl (by decide) (hG _ q_1_88) (fun _ h9 => h9) rfl (by decide +kernel) rfl rfl (Nat.le_of_ble_eq_true rfl) dX3_lay_26 (sSX_5 _ _ _) (fun H locs hW => ?_)
  refine lv_aload_n hx hb dX3_lay_29 rfl (lv_at hl 0 rfl) ?_
  refine gw_get (v := .int (2 : Int32)) F inc_X3 hW 4 3 2 (aX_4 K (stS σ 5 y0)) rfl (by decide) (hG _ q_1_85) (fun _ h9 => h9) rfl dX3_lay_30 ?_
  refine lv_iconst (v := (2 : Int32)) hx hb dX3_lay_33 (by decide) ?_
  refine lv_icmp_ne (tgt := 47) hx hb dX3_lay_34 (by decide) (fun c5 => absurd c5 (by decide)) (fun c5 => ?_)
  refine lv_aload_n hx hb dX3_lay_37 rfl (lv_at hl 0 rfl) ?_
  refine gw_get (v := .ref (ka K 3)) F inc_X3 hW 4 3 1 (aX_4 K (stS σ 5 y0)) rfl (by decide) (hG _ q_1_84) (fun _ h9 => h9) rfl dX3_lay_38 ?_
  obtain ⟨o6, h7, hf⟩ := gw_bind hf
  refine gw_Vi (As := []) (mc' := 0) (ms' := 0) F hW (mXX2_fixedBlocks_3 h7) (cwV 0 hts (gT_V q_4_215 q_2_78 q_2_79 q_1_4 q_2_80) rfl rfl rfl hdX2_fixedBlocks ⟨Nat.le_of_ble_eq_true rfl, Nat.le_of_ble_eq_true rfl⟩) 3 2 (aX_3 K (stS σ 5 y0)) rfl rfl hl.1 rfl (Nat.le_of_ble_eq_true rfl) dX3_lay_41 ⟨Nat.le_of_ble_eq_true rfl, Nat.le_of_ble_eq_true rfl⟩ rfl rfl (fun H locs hW => ?_)
  refine lv_goto (tgt := 48) hx hb dX3_lay_44 (by decide) ?_
  exact wXX3_lay_4_48 F o6.1 _ _ hf _ _ _ (lv_sub hl [0] rfl) hW
set_option maxHeartbeats 4000000 in
set_option maxRecDepth 100000 in
theorem wXX3_lay_4_0 {p : Program} {l : Launch} {e : Env} {s : State} {m : MethodId} {args : Array Value} {below : List Frame} {meth : Method} {c : Code} {A : Nat → Prop} {K : KX} (F : fx_ p s m args meth c cX3_lay 5 none RX3 wsX3_lay) (σ : XS) (o : XS) (hf : fXX3_lay_4_0 (kn K) σ = some o) (H : Heap) (locs : List Loc) (ls : Array Slot) (hl : lv_has ls 5 [(0, .ref (ka K 4))]) (hW : gw_ (kD K) vwCl (tyX K) (wX K) A s σ H locs) : W p l e rXX3_lay_4 s m args below meth c H locs 0 0 (MQ below (gw_Qv (kD K) vwCl (tyX K) (wX K) A o) args s rXX3_lay_4.cells rXX3_lay_4.slots A) (F0 m 0 ls []) := by
  have hx := F.1
  have hb := F.2.1
  have hml := F.2.2.2.1
  have hown := F.2.2.2.2.1
  have hts := F.2.2.2.2.2.1
  have hG : ∀ x ∈ gT, x.before args s = true := fun x h => hts x (List.mem_cons_of_mem _ h)
  unfold fXX3_lay_4_0 at hf
  refine lv_aload_n hx hb dX3_lay_0 rfl (lv_at hl 0 rfl) ?_
  refine lv_aload_n hx hb dX3_lay_1 rfl (lv_at hl 0 rfl) ?_
  refine gw_get (v := .int (2 : Int32)) F inc_X3 hW 4 3 2 (aX_4 K σ) rfl (by decide) (hG _ q_1_85) (fun _ h9 => h9) rfl dX3_lay_2 ?_
  refine lv_iconst (v := (2 : Int32)) hx hb dX3_lay_5 (by decide) ?_
  refine lv_icmp_ne (tgt := 19) hx hb dX3_lay_6 (by decide) (fun c1 => absurd c1 (by decide)) (fun c1 => ?_)
  refine lv_aload_n hx hb dX3_lay_9 rfl (lv_at hl 0 rfl) ?_
  refine gw_get (v := .ref (ka K 3)) F inc_X3 hW 4 3 1 (aX_4 K σ) rfl (by decide) (hG _ q_1_84) (fun _ h9 => h9) rfl dX3_lay_10 ?_
  obtain ⟨o2, h3, hf⟩ := gw_bind hf
  refine gw_Vi (As := []) (mc' := 0) (ms' := 0) F hW (mXX2_groupBlocks_3 h3) (cwV 0 hts (gT_V q_4_214 q_4_172 q_4_173 q_1_4 q_4_174) rfl rfl rfl hdX2_groupBlocks ⟨Nat.le_of_ble_eq_true rfl, Nat.le_of_ble_eq_true rfl⟩) 3 2 (aX_3 K σ) rfl rfl hl.1 rfl (Nat.le_of_ble_eq_true rfl) dX3_lay_13 ⟨Nat.le_of_ble_eq_true rfl, Nat.le_of_ble_eq_true rfl⟩ rfl rfl (fun H locs hW => ?_)
  refine lv_goto (tgt := 26) hx hb dX3_lay_16 (by decide) ?_
  exact wXX3_lay_4_26 F o2.1 _ _ hf _ _ _ (lv_sub hl [0] rfl) hW
set_option maxHeartbeats 4000000 in
set_option maxRecDepth 100000 in
theorem mXX3_lay_4 {l : Launch} {K : KX} {σ : XS} {o : XS} (hf : fXX3_lay_4 (kn K) σ = some o) : gw_Mv l (kD K) vwCl (tyX K) (wX K) yX3_lay wsX3_lay rXX3_lay_4 [.ref (ka K 4)] σ o := by
  intro sz
  refine gw_body (cc := cX3_lay) (maxL := 5) (yret := none) (by decide +kernel) rfl ?_ (Nat.le_of_ble_eq_true rfl)
  intro p e s m below meth c F hsz hW ls hl
  exact wXX3_lay_4_0 F σ o hf s.heap [] ls hl hW
abbrev rXX2_groupInodes_3 : Room := { frames := 0, cells := 0, slots := 0, locals := 0 }
set_option maxHeartbeats 4000000 in
set_option maxRecDepth 100000 in
theorem wXX2_groupInodes_3_0 {p : Program} {l : Launch} {e : Env} {s : State} {m : MethodId} {args : Array Value} {below : List Frame} {meth : Method} {c : Code} {A : Nat → Prop} {K : KX} (F : fx_ p s m args meth c cX2_groupInodes 1 (some .int) RX2 wsX2_groupInodes) (σ : XS) (o : (Int32 × XS)) (hf : fXX2_groupInodes_3_0 (kn K) σ = some o) (H : Heap) (locs : List Loc) (ls : Array Slot) (hl : lv_has ls 1 [(0, .ref (ka K 3))]) (hW : gw_ (kD K) vwCl (tyX K) (wX K) A s σ H locs) : W p l e rXX2_groupInodes_3 s m args below meth c H locs 0 0 (MQ below (gw_Qi (kD K) vwCl (tyX K) (wX K) A o) args s rXX2_groupInodes_3.cells rXX2_groupInodes_3.slots A) (F0 m 0 ls []) := by
  have hx := F.1
  have hb := F.2.1
  have hml := F.2.2.2.1
  have hown := F.2.2.2.2.1
  have hts := F.2.2.2.2.2.1
  have hG : ∀ x ∈ gT, x.before args s = true := fun x h => hts x (List.mem_cons_of_mem _ h)
  unfold fXX2_groupInodes_3_0 at hf
  refine lv_aload_n hx hb dX2_groupInodes_0 rfl (lv_at hl 0 rfl) ?_
  refine gw_get (v := .int (σ.1 4)) F inc_X2 hW 3 2 3 (aX_3 K σ) rfl (by decide) (hG _ q_1_67) (fun _ h9 => h9) rfl dX2_groupInodes_1 ?_
  exact gw_reti F hW hf dX2_groupInodes_4
set_option maxHeartbeats 4000000 in
set_option maxRecDepth 100000 in
theorem mXX2_groupInodes_3 {l : Launch} {K : KX} {σ : XS} {o : (Int32 × XS)} (hf : fXX2_groupInodes_3 (kn K) σ = some o) : gw_Mi l (kD K) vwCl (tyX K) (wX K) yX2_groupInodes wsX2_groupInodes rXX2_groupInodes_3 [.ref (ka K 3)] σ o := by
  intro sz
  refine gw_body (cc := cX2_groupInodes) (maxL := 1) (yret := some .int) (by decide +kernel) rfl ?_ (Nat.le_of_ble_eq_true rfl)
  intro p e s m below meth c F hsz hW ls hl
  exact wXX2_groupInodes_3_0 F σ o hf s.heap [] ls hl hW
abbrev rXX3_realIn_5 : Room := { frames := 1, cells := 0, slots := 0, locals := 20 }
set_option maxHeartbeats 4000000 in
set_option maxRecDepth 100000 in
theorem wXX3_realIn_5_0 {p : Program} {l : Launch} {e : Env} {s : State} {m : MethodId} {args : Array Value} {below : List Frame} {meth : Method} {c : Code} {A : Nat → Prop} {K : KX} (F : fx_ p s m args meth c cX3_realIn 2 (some .int) RX3 wsX3_realIn) (x1 : Int32) (σ : XS) (o : (Int32 × XS)) (hf : fXX3_realIn_5_0 (kn K) x1 σ = some o) (H : Heap) (locs : List Loc) (ls : Array Slot) (hl : lv_has ls 2 [(0, .ref (ka K 5)), (1, .int x1)]) (hW : gw_ (kD K) vwCl (tyX K) (wX K) A s σ H locs) : W p l e rXX3_realIn_5 s m args below meth c H locs 0 0 (MQ below (gw_Qi (kD K) vwCl (tyX K) (wX K) A o) args s rXX3_realIn_5.cells rXX3_realIn_5.slots A) (F0 m 0 ls []) := by
  have hx := F.1
  have hb := F.2.1
  have hml := F.2.2.2.1
  have hown := F.2.2.2.2.1
  have hts := F.2.2.2.2.2.1
  have hG : ∀ x ∈ gT, x.before args s = true := fun x h => hts x (List.mem_cons_of_mem _ h)
  unfold fXX3_realIn_5_0 at hf
  refine lv_aload_n hx hb dX3_realIn_0 rfl (lv_at hl 0 rfl) ?_
  refine gw_get (v := .int (3 : Int32)) F inc_X3 hW 5 3 2 (aX_5 K σ) rfl (by decide) (hG _ q_1_85) (fun _ h9 => h9) rfl dX3_realIn_1 ?_
  refine lv_iconst (v := (2 : Int32)) hx hb dX3_realIn_4 (by decide) ?_
  refine lv_icmp_ne (tgt := 19) hx hb dX3_realIn_5 (by decide) (fun c1 => ?_) (fun c1 => absurd c1 (by decide))
  refine lv_aload_n hx hb dX3_realIn_19 rfl (lv_at hl 0 rfl) ?_
  refine gw_get (v := .ref (ka K 3)) F inc_X3 hW 5 3 1 (aX_5 K σ) rfl (by decide) (hG _ q_1_84) (fun _ h9 => h9) rfl dX3_realIn_20 ?_
  obtain ⟨o2, h3, hf⟩ := gw_bind hf
  refine gw_Vi (As := []) (mc' := 0) (ms' := 0) F hW (mXX2_groupInodes_3 h3) (cwV 0 hts (gT_V q_3_33 q_3_34 q_3_35 q_1_4 q_3_36) rfl rfl rfl hdX2_groupInodes ⟨Nat.le_of_ble_eq_true rfl, Nat.le_of_ble_eq_true rfl⟩) 3 2 (aX_3 K σ) rfl rfl hl.1 rfl (Nat.le_of_ble_eq_true rfl) dX3_realIn_23 ⟨Nat.le_of_ble_eq_true rfl, Nat.le_of_ble_eq_true rfl⟩ rfl rfl (fun H locs hW => ?_)
  exact gw_reti F hW hf dX3_realIn_26
set_option maxHeartbeats 4000000 in
set_option maxRecDepth 100000 in
theorem mXX3_realIn_5 {l : Launch} {K : KX} {σ : XS} {x1 : Int32} {o : (Int32 × XS)} (hf : fXX3_realIn_5 (kn K) x1 σ = some o) : gw_Mi l (kD K) vwCl (tyX K) (wX K) yX3_realIn wsX3_realIn rXX3_realIn_5 [.ref (ka K 5), .int x1] σ o := by
  intro sz
  refine gw_body (cc := cX3_realIn) (maxL := 2) (yret := some .int) (by decide +kernel) rfl ?_ (Nat.le_of_ble_eq_true rfl)
  intro p e s m below meth c F hsz hW ls hl
  exact wXX3_realIn_5_0 F x1 σ o hf s.heap [] ls hl hW
abbrev rXX3_lay_5 : Room := { frames := 3, cells := 0, slots := 0, locals := 69 }
def PXX3_lay_5_94 (p : Program) (l : Launch) (e : Env) (s : State) (m : MethodId) (args : Array Value) (below : List Frame) (meth : Method) (c : Code) (A : Nat → Prop) (K : KX) (t : (Int32 × Int32 × Int32 × Int32 × XS)) (o : XS) : Prop := ∀ (H : Heap) (locs : List Loc) (ls : Array Slot), lv_has ls 5 [(0, .ref (ka K 5)), (1, .int t.1), (2, .int t.2.1), (3, .int t.2.2.1), (4, .int t.2.2.2.1)] → gw_ (kD K) vwCl (tyX K) (wX K) A s t.2.2.2.2 H locs → W p l e rXX3_lay_5 s m args below meth c H locs 0 0 (MQ below (gw_Qv (kD K) vwCl (tyX K) (wX K) A o) args s rXX3_lay_5.cells rXX3_lay_5.slots A) (F0 m 94 ls [])
def PXX3_lay_5_51 (p : Program) (l : Launch) (e : Env) (s : State) (m : MethodId) (args : Array Value) (below : List Frame) (meth : Method) (c : Code) (A : Nat → Prop) (K : KX) (t : (Int32 × Int32 × XS)) (o : XS) : Prop := ∀ (H : Heap) (locs : List Loc) (ls : Array Slot), lv_has ls 5 [(0, .ref (ka K 5)), (1, .int t.1), (2, .int t.2.1)] → gw_ (kD K) vwCl (tyX K) (wX K) A s t.2.2 H locs → W p l e rXX3_lay_5 s m args below meth c H locs 0 0 (MQ below (gw_Qv (kD K) vwCl (tyX K) (wX K) A o) args s rXX3_lay_5.cells rXX3_lay_5.slots A) (F0 m 51 ls [])
set_option maxHeartbeats 4000000 in
set_option maxRecDepth 100000 in
theorem wXX3_lay_5_94 {p : Program} {l : Launch} {e : Env} {s : State} {m : MethodId} {args : Array Value} {below : List Frame} {meth : Method} {c : Code} {A : Nat → Prop} {K : KX} (F : fx_ p s m args meth c cX3_lay 5 none RX3 wsX3_lay) {k51 : (Int32 × Int32 × XS) → Option XS} (hk51 : ∀ t o, k51 t = some o → PXX3_lay_5_51 p l e s m args below meth c A K t o) {k94 : (Int32 × Int32 × Int32 × Int32 × XS) → Option XS} (hk94 : ∀ t o, k94 t = some o → PXX3_lay_5_94 p l e s m args below meth c A K t o) (x1 : Int32) (x2 : Int32) (x3 : Int32) (x4 : Int32) (σ : XS) (o : XS) (hf : fXX3_lay_5_94 (kn K) k51 k94 x1 x2 x3 x4 σ = some o) (H : Heap) (locs : List Loc) (ls : Array Slot) (hl : lv_has ls 5 [(0, .ref (ka K 5)), (1, .int x1), (2, .int x2), (3, .int x3), (4, .int x4)]) (hW : gw_ (kD K) vwCl (tyX K) (wX K) A s σ H locs) : W p l e rXX3_lay_5 s m args below meth c H locs 0 0 (MQ below (gw_Qv (kD K) vwCl (tyX K) (wX K) A o) args s rXX3_lay_5.cells rXX3_lay_5.slots A) (F0 m 94 ls []) := by
  have hx := F.1
  have hb := F.2.1
  have hml := F.2.2.2.1
  have hown := F.2.2.2.2.1
  have hts := F.2.2.2.2.2.1
  have hG : ∀ x ∈ gT, x.before args s = true := fun x h => hts x (List.mem_cons_of_mem _ h)
  unfold fXX3_lay_5_94 at hf
  refine lv_iload hx hb dX3_lay_94 (lv_at hl 4 rfl) ?_
  refine lv_aload_n hx hb dX3_lay_96 rfl (lv_at hl 0 rfl) ?_
  refine lv_iload_n hx hb dX3_lay_97 rfl (lv_at hl 2 rfl) ?_
  obtain ⟨o16, h17, hf⟩ := gw_bind hf
  refine gw_Vi (As := [.int x2]) (mc' := 0) (ms' := 0) F hW (mXX3_realIn_5 h17) (cwV 1 hts (gT_V q_3_23 q_3_25 qp_19 q_1_5 q_3_26) rfl rfl rfl hdX3_realIn ⟨Nat.le_of_ble_eq_true rfl, Nat.le_of_ble_eq_true rfl⟩) 5 3 (aX_5 K σ) rfl rfl hl.1 rfl (Nat.le_of_ble_eq_true rfl) dX3_lay_98 ⟨Nat.le_of_ble_eq_true rfl, Nat.le_of_ble_eq_true rfl⟩ rfl rfl (fun H locs hW => ?_)
  refine lv_icmp_ge (tgt := 148) hx hb dX3_lay_101 (by decide) (fun c19 => ?_) (fun c19 => ?_)
  · replace hf := (if_pos c19).symm.trans hf
    refine lv_iinc (v := (x2 + (1 : Int32))) (lv' := [(2, .int (x2 + (1 : Int32))), (0, .ref (ka K 5)), (1, .int x1), (3, .int x3), (4, .int x4)]) hx hb dX3_lay_148 hl (k := 2) rfl rfl (by decide) rfl (fun ls hl => ?_)
    refine lv_goto (tgt := 51) hx hb dX3_lay_151 (by decide) ?_
    exact hk51 _ _ hf _ _ _ (lv_sub hl [1, 2, 0] rfl) hW
  · replace hf := (if_neg c19).symm.trans hf
    refine lv_aload_n hx hb dX3_lay_104 rfl (lv_at hl 0 rfl) ?_
    refine gw_get (v := .ref (ka K 1)) F inc_X3 hW 5 3 0 (aX_5 K o16.2) rfl (by decide) (hG _ q_1_83) (fun _ h9 => h9) rfl dX3_lay_105 ?_
    refine lv_iload_n hx hb dX3_lay_108 rfl (lv_at hl 3 rfl) ?_
    refine lv_iload hx hb dX3_lay_109 (lv_at hl 4 rfl) ?_
    refine lv_bipush (v := (8 : Int32)) hx hb dX3_lay_111 (by decide) ?_
    refine lv_idiv hx hb dX3_lay_113 (by decide) ?_
    refine lv_iadd hx hb dX3_lay_114 ?_
    refine lv_aload_n hx hb dX3_lay_115 rfl (lv_at hl 0 rfl) ?_
    refine gw_get (v := .ref (ka K 1)) F inc_X3 hW 5 3 0 (aX_5 K o16.2) rfl (by decide) (hG _ q_1_83) (fun _ h9 => h9) rfl dX3_lay_116 ?_
    refine lv_iload_n hx hb dX3_lay_119 rfl (lv_at hl 3 rfl) ?_
    refine lv_iload hx hb dX3_lay_120 (lv_at hl 4 rfl) ?_
    refine lv_bipush (v := (8 : Int32)) hx hb dX3_lay_122 (by decide) ?_
    refine lv_idiv hx hb dX3_lay_124 (by decide) ?_
    refine lv_iadd hx hb dX3_lay_125 ?_
    obtain ⟨o20, h21, hf⟩ := gw_bind hf
    refine gw_Vi (As := [.int (x3 + (x4 / (8 : Int32)))]) (mc' := 0) (ms' := 0) F hW (mXX1_get_1 h21) (cwV 1 hts (gT_V q_2_55 q_2_56 q_2_57 q_1_3 q_2_58) rfl rfl rfl hdX1_get ⟨Nat.le_of_ble_eq_true rfl, Nat.le_of_ble_eq_true rfl⟩) 1 1 (aX_1 K o16.2) rfl rfl hl.1 rfl (Nat.le_of_ble_eq_true rfl) dX3_lay_126 ⟨Nat.le_of_ble_eq_true rfl, Nat.le_of_ble_eq_true rfl⟩ rfl rfl (fun H locs hW => ?_)
    refine lv_iconst (v := (1 : Int32)) hx hb dX3_lay_129 (by decide) ?_
    refine lv_iload hx hb dX3_lay_130 (lv_at hl 4 rfl) ?_
    refine lv_bipush (v := (8 : Int32)) hx hb dX3_lay_132 (by decide) ?_
    refine lv_irem hx hb dX3_lay_134 (by decide) ?_
    refine lv_ishl hx hb dX3_lay_135 ?_
    refine lv_iconst (v := (-1 : Int32)) hx hb dX3_lay_136 (by decide) ?_
    refine lv_ixor hx hb dX3_lay_137 ?_
    refine lv_iand hx hb dX3_lay_138 ?_
    obtain ⟨o23, h24, hf⟩ := gw_bind hf
    refine gw_Vv (As := [.int (x3 + (x4 / (8 : Int32))), .int (o20.1 &&& (((1 : Int32) <<< ((x4 - x4 / (8 : Int32) * (8 : Int32)) &&& 31)) ^^^ (-1 : Int32)))]) (mc' := 0) (ms' := 0) F hW (mXX1_put_1 h24) (cwV 2 hts (gT_V q_4_218 q_4_219 q_4_220 q_1_3 q_4_221) rfl rfl rfl hdX1_put ⟨Nat.le_of_ble_eq_true rfl, Nat.le_of_ble_eq_true rfl⟩) 1 1 (aX_1 K o20.2) rfl rfl hl.1 rfl (Nat.le_of_ble_eq_true rfl) dX3_lay_139 ⟨Nat.le_of_ble_eq_true rfl, Nat.le_of_ble_eq_true rfl⟩ rfl rfl (fun H locs hW => ?_)
    refine lv_iinc (v := (x4 + (1 : Int32))) (lv' := [(4, .int (x4 + (1 : Int32))), (0, .ref (ka K 5)), (1, .int x1), (2, .int x2), (3, .int x3)]) hx hb dX3_lay_142 hl (k := 4) rfl rfl (by decide) rfl (fun ls hl => ?_)
    refine lv_goto (tgt := 94) hx hb dX3_lay_145 (by decide) ?_
    exact hk94 _ _ hf _ _ _ (lv_sub hl [1, 2, 3, 4, 0] rfl) hW
set_option maxHeartbeats 4000000 in
set_option maxRecDepth 100000 in
theorem wXX3_lay_5_51 {p : Program} {l : Launch} {e : Env} {s : State} {m : MethodId} {args : Array Value} {below : List Frame} {meth : Method} {c : Code} {A : Nat → Prop} {K : KX} (F : fx_ p s m args meth c cX3_lay 5 none RX3 wsX3_lay) {k51 : (Int32 × Int32 × XS) → Option XS} (hk51 : ∀ t o, k51 t = some o → PXX3_lay_5_51 p l e s m args below meth c A K t o) (x1 : Int32) (x2 : Int32) (σ : XS) (o : XS) (hf : fXX3_lay_5_51 (kn K) k51 x1 x2 σ = some o) (H : Heap) (locs : List Loc) (ls : Array Slot) (hl : lv_has ls 5 [(0, .ref (ka K 5)), (1, .int x1), (2, .int x2)]) (hW : gw_ (kD K) vwCl (tyX K) (wX K) A s σ H locs) : W p l e rXX3_lay_5 s m args below meth c H locs 0 0 (MQ below (gw_Qv (kD K) vwCl (tyX K) (wX K) A o) args s rXX3_lay_5.cells rXX3_lay_5.slots A) (F0 m 51 ls []) := by
  have hx := F.1
  have hb := F.2.1
  have hml := F.2.2.2.1
  have hown := F.2.2.2.2.1
  have hts := F.2.2.2.2.2.1
  have hG : ∀ x ∈ gT, x.before args s = true := fun x h => hts x (List.mem_cons_of_mem _ h)
  unfold fXX3_lay_5_51 at hf
  refine lv_iload_n hx hb dX3_lay_51 rfl (lv_at hl 2 rfl) ?_
  refine lv_aload_n hx hb dX3_lay_52 rfl (lv_at hl 0 rfl) ?_
  refine gw_get (v := .ref (ka K 3)) F inc_X3 hW 5 3 1 (aX_5 K σ) rfl (by decide) (hG _ q_1_84) (fun _ h9 => h9) rfl dX3_lay_53 ?_
  obtain ⟨o6, h7, hf⟩ := gw_bind hf
  refine gw_Vi (As := []) (mc' := 0) (ms' := 0) F hW (mXX2_groups_3 h7) (cwV 0 hts (gT_V q_4_216 q_2_74 q_2_75 q_1_4 q_2_76) rfl rfl rfl hdX2_groups ⟨Nat.le_of_ble_eq_true rfl, Nat.le_of_ble_eq_true rfl⟩) 3 2 (aX_3 K σ) rfl rfl hl.1 rfl (Nat.le_of_ble_eq_true rfl) dX3_lay_56 ⟨Nat.le_of_ble_eq_true rfl, Nat.le_of_ble_eq_true rfl⟩ rfl rfl (fun H locs hW => ?_)
  refine lv_icmp_ge (tgt := 154) hx hb dX3_lay_59 (by decide) (fun c9 => ?_) (fun c9 => ?_)
  · replace hf := (if_pos c9).symm.trans hf
    exact gw_retv F hW hf dX3_lay_154
  · replace hf := (if_neg c9).symm.trans hf
    refine lv_aload_n hx hb dX3_lay_62 rfl (lv_at hl 0 rfl) ?_
    refine gw_get (v := .ref (ka K 3)) F inc_X3 hW 5 3 1 (aX_5 K o6.2) rfl (by decide) (hG _ q_1_84) (fun _ h9 => h9) rfl dX3_lay_63 ?_
    refine lv_iload_n hx hb dX3_lay_66 rfl (lv_at hl 2 rfl) ?_
    refine lv_aload_n hx hb dX3_lay_67 rfl (lv_at hl 0 rfl) ?_
    refine gw_get (v := .int (3 : Int32)) F inc_X3 hW 5 3 2 (aX_5 K o6.2) rfl (by decide) (hG _ q_1_85) (fun _ h9 => h9) rfl dX3_lay_68 ?_
    obtain ⟨o10, h11, hf⟩ := gw_bind hf
    refine gw_Vi (As := [.int x2, .int (3 : Int32)]) (mc' := 0) (ms' := 0) F hW (mXX2_partAt_3 h11) (cwV 2 hts (gT_V q_2_51 q_2_52 q_2_53 q_1_4 q_2_54) rfl rfl rfl hdX2_partAt ⟨Nat.le_of_ble_eq_true rfl, Nat.le_of_ble_eq_true rfl⟩) 3 2 (aX_3 K o6.2) rfl rfl hl.1 rfl (Nat.le_of_ble_eq_true rfl) dX3_lay_71 ⟨Nat.le_of_ble_eq_true rfl, Nat.le_of_ble_eq_true rfl⟩ rfl rfl (fun H locs hW => ?_)
    refine lv_istore_n (lv' := [(3, .int o10.1), (0, .ref (ka K 5)), (1, .int x1), (2, .int x2)]) hx hb dX3_lay_74 rfl hl (by decide) rfl (fun ls hl => ?_)
    refine lv_aload_n hx hb dX3_lay_75 rfl (lv_at hl 1 rfl) ?_
    refine gw_get (v := .ref (ka K 1)) F inc_X3 hW 5 3 0 (aX_5 K o10.2) rfl (by decide) (hG _ q_1_83) (fun _ h9 => h9) rfl dX3_lay_76 ?_
    refine lv_iload_n hx hb dX3_lay_79 rfl (lv_at hl 0 rfl) ?_
    refine lv_iload_n hx hb dX3_lay_80 rfl (lv_at hl 0 rfl) ?_
    refine lv_sipush (v := (1024 : Int32)) hx hb dX3_lay_81 (by decide) ?_
    refine lv_iadd hx hb dX3_lay_84 ?_
    refine lv_sipush (v := (255 : Int32)) hx hb dX3_lay_85 (by decide) ?_
    obtain ⟨o13, h14, hf⟩ := gw_bind hf
    refine gw_Vv (As := [.int o10.1, .int (o10.1 + (1024 : Int32)), .int (255 : Int32)]) (mc' := 0) (ms' := 0) F hW (mXX1_fill_1 h14) (cwV 3 hts (gT_V q_4_217 q_3_42 q_3_43 q_1_3 q_3_44) rfl rfl rfl hdX1_fill ⟨Nat.le_of_ble_eq_true rfl, Nat.le_of_ble_eq_true rfl⟩) 1 1 (aX_1 K o10.2) rfl rfl hl.1 rfl (Nat.le_of_ble_eq_true rfl) dX3_lay_88 ⟨Nat.le_of_ble_eq_true rfl, Nat.le_of_ble_eq_true rfl⟩ rfl rfl (fun H locs hW => ?_)
    refine lv_iload_n hx hb dX3_lay_91 rfl (lv_at hl 2 rfl) ?_
    refine lv_istore (lv' := [(4, .int x1), (3, .int o10.1), (0, .ref (ka K 5)), (1, .int x1), (2, .int x2)]) hx hb dX3_lay_92 hl (by decide) rfl (fun ls hl => ?_)
    exact lfix_ind (P := PXX3_lay_5_94 p l e s m args below meth c A K) (fun k94 hk94 t o hf => wXX3_lay_5_94 F hk51 hk94 t.1 t.2.1 t.2.2.1 t.2.2.2.1 t.2.2.2.2 o hf) FU _ _ hf _ _ _ (lv_sub hl [2, 3, 4, 1, 0] rfl) hW
set_option maxHeartbeats 4000000 in
set_option maxRecDepth 100000 in
theorem wXX3_lay_5_48 {p : Program} {l : Launch} {e : Env} {s : State} {m : MethodId} {args : Array Value} {below : List Frame} {meth : Method} {c : Code} {A : Nat → Prop} {K : KX} (F : fx_ p s m args meth c cX3_lay 5 none RX3 wsX3_lay) (y0 : Int32) (σ : XS) (o : XS) (hf : fXX3_lay_5_48 (kn K) y0 σ = some o) (H : Heap) (locs : List Loc) (ls : Array Slot) (hl : lv_has ls 5 [(0, .ref (ka K 5))]) (hW : gw_ (kD K) vwCl (tyX K) (wX K) A s σ H locs) : W p l e rXX3_lay_5 s m args below meth c H locs 0 0 (MQ below (gw_Qv (kD K) vwCl (tyX K) (wX K) A o) args s rXX3_lay_5.cells rXX3_lay_5.slots A) (F0 m 48 ls [.int y0]) := by
  have hx := F.1
  have hb := F.2.1
  have hml := F.2.2.2.1
  have hown := F.2.2.2.2.1
  have hts := F.2.2.2.2.2.1
  have hG : ∀ x ∈ gT, x.before args s = true := fun x h => hts x (List.mem_cons_of_mem _ h)
  unfold fXX3_lay_5_48 at hf
  refine lv_istore_n (lv' := [(1, .int y0), (0, .ref (ka K 5))]) hx hb dX3_lay_48 rfl hl (by decide) rfl (fun ls hl => ?_)
  refine lv_iconst (v := (0 : Int32)) hx hb dX3_lay_49 (by decide) ?_
  refine lv_istore_n (lv' := [(2, .int (0 : Int32)), (1, .int y0), (0, .ref (ka K 5))]) hx hb dX3_lay_50 rfl hl (by decide) rfl (fun ls hl => ?_)
  exact lfix_ind (P := PXX3_lay_5_51 p l e s m args below meth c A K) (fun k51 hk51 t o hf => wXX3_lay_5_51 F hk51 t.1 t.2.1 t.2.2 o hf) FU _ _ hf _ _ _ (lv_sub hl [2, 1, 0] rfl) hW
set_option maxHeartbeats 4000000 in
set_option maxRecDepth 100000 in
theorem wXX3_lay_5_26 {p : Program} {l : Launch} {e : Env} {s : State} {m : MethodId} {args : Array Value} {below : List Frame} {meth : Method} {c : Code} {A : Nat → Prop} {K : KX} (F : fx_ p s m args meth c cX3_lay 5 none RX3 wsX3_lay) (y0 : Int32) (σ : XS) (o : XS) (hf : fXX3_lay_5_26 (kn K) y0 σ = some o) (H : Heap) (locs : List Loc) (ls : Array Slot) (hl : lv_has ls 5 [(0, .ref (ka K 5))]) (hW : gw_ (kD K) vwCl (tyX K) (wX K) A s σ H locs) : W p l e rXX3_lay_5 s m args below meth c H locs 0 0 (MQ below (gw_Qv (kD K) vwCl (tyX K) (wX K) A o) args s rXX3_lay_5.cells rXX3_lay_5.slots A) (F0 m 26 ls [.int y0, .ref (ka K 5)]) := by
  have hx := F.1
  have hb := F.2.1
  have hml := F.2.2.2.1
  have hown := F.2.2.2.2.1
  have hts := F.2.2.2.2.2.1
  have hG : ∀ x ∈ gT, x.before args s = true := fun x h => hts x (List.mem_cons_of_mem _ h)
  unfold fXX3_lay_5_26 at hf
  refine gw_put (σ' := (stS σ 6 y0)) (ty := .int) F inc_X3 tyX3 tyX3_ok nmX3 hW 5 3 5 (aX_5 K σ) rfl (by decide) (hG _ q_1_88) (fun _ h9 => h9) rfl (by decide +kernel) rfl rfl (Nat.le_of_ble_eq_true rfl) dX3_lay_26 (sSX_6 _ _ _) (fun H locs hW => ?_)
  refine lv_aload_n hx hb dX3_lay_29 rfl (lv_at hl 0 rfl) ?_
  refine gw_get (v := .int (3 : Int32)) F inc_X3 hW 5 3 2 (aX_5 K (stS σ 6 y0)) rfl (by decide) (hG _ q_1_85) (fun _ h9 => h9) rfl dX3_lay_30 ?_
  refine lv_iconst (v := (2 : Int32)) hx hb dX3_lay_33 (by decide) ?_
  refine lv_icmp_ne (tgt := 47) hx hb dX3_lay_34 (by decide) (fun c5 => ?_) (fun c5 => absurd c5 (by decide))
  refine lv_iconst (v := (0 : Int32)) hx hb dX3_lay_47 (by decide) ?_
  exact wXX3_lay_5_48 F (0 : Int32) _ _ hf _ _ _ (lv_sub hl [0] rfl) hW
set_option maxHeartbeats 4000000 in
set_option maxRecDepth 100000 in
theorem wXX3_lay_5_0 {p : Program} {l : Launch} {e : Env} {s : State} {m : MethodId} {args : Array Value} {below : List Frame} {meth : Method} {c : Code} {A : Nat → Prop} {K : KX} (F : fx_ p s m args meth c cX3_lay 5 none RX3 wsX3_lay) (σ : XS) (o : XS) (hf : fXX3_lay_5_0 (kn K) σ = some o) (H : Heap) (locs : List Loc) (ls : Array Slot) (hl : lv_has ls 5 [(0, .ref (ka K 5))]) (hW : gw_ (kD K) vwCl (tyX K) (wX K) A s σ H locs) : W p l e rXX3_lay_5 s m args below meth c H locs 0 0 (MQ below (gw_Qv (kD K) vwCl (tyX K) (wX K) A o) args s rXX3_lay_5.cells rXX3_lay_5.slots A) (F0 m 0 ls []) := by
  have hx := F.1
  have hb := F.2.1
  have hml := F.2.2.2.1
  have hown := F.2.2.2.2.1
  have hts := F.2.2.2.2.2.1
  have hG : ∀ x ∈ gT, x.before args s = true := fun x h => hts x (List.mem_cons_of_mem _ h)
  unfold fXX3_lay_5_0 at hf
  refine lv_aload_n hx hb dX3_lay_0 rfl (lv_at hl 0 rfl) ?_
  refine lv_aload_n hx hb dX3_lay_1 rfl (lv_at hl 0 rfl) ?_
  refine gw_get (v := .int (3 : Int32)) F inc_X3 hW 5 3 2 (aX_5 K σ) rfl (by decide) (hG _ q_1_85) (fun _ h9 => h9) rfl dX3_lay_2 ?_
  refine lv_iconst (v := (2 : Int32)) hx hb dX3_lay_5 (by decide) ?_
  refine lv_icmp_ne (tgt := 19) hx hb dX3_lay_6 (by decide) (fun c1 => ?_) (fun c1 => absurd c1 (by decide))
  refine lv_aload_n hx hb dX3_lay_19 rfl (lv_at hl 0 rfl) ?_
  refine gw_get (v := .ref (ka K 3)) F inc_X3 hW 5 3 1 (aX_5 K σ) rfl (by decide) (hG _ q_1_84) (fun _ h9 => h9) rfl dX3_lay_20 ?_
  obtain ⟨o2, h3, hf⟩ := gw_bind hf
  refine gw_Vi (As := []) (mc' := 0) (ms' := 0) F hW (mXX2_groupInodes_3 h3) (cwV 0 hts (gT_V q_3_33 q_3_34 q_3_35 q_1_4 q_3_36) rfl rfl rfl hdX2_groupInodes ⟨Nat.le_of_ble_eq_true rfl, Nat.le_of_ble_eq_true rfl⟩) 3 2 (aX_3 K σ) rfl rfl hl.1 rfl (Nat.le_of_ble_eq_true rfl) dX3_lay_23 ⟨Nat.le_of_ble_eq_true rfl, Nat.le_of_ble_eq_true rfl⟩ rfl rfl (fun H locs hW => ?_)
  exact wXX3_lay_5_26 F o2.1 _ _ hf _ _ _ (lv_sub hl [0] rfl) hW
set_option maxHeartbeats 4000000 in
set_option maxRecDepth 100000 in
theorem mXX3_lay_5 {l : Launch} {K : KX} {σ : XS} {o : XS} (hf : fXX3_lay_5 (kn K) σ = some o) : gw_Mv l (kD K) vwCl (tyX K) (wX K) yX3_lay wsX3_lay rXX3_lay_5 [.ref (ka K 5)] σ o := by
  intro sz
  refine gw_body (cc := cX3_lay) (maxL := 5) (yret := none) (by decide +kernel) rfl ?_ (Nat.le_of_ble_eq_true rfl)
  intro p e s m below meth c F hsz hW ls hl
  exact wXX3_lay_5_0 F σ o hf s.heap [] ls hl hW
abbrev rXX2_inodes_3 : Room := { frames := 0, cells := 0, slots := 0, locals := 0 }
set_option maxHeartbeats 4000000 in
set_option maxRecDepth 100000 in
theorem wXX2_inodes_3_0 {p : Program} {l : Launch} {e : Env} {s : State} {m : MethodId} {args : Array Value} {below : List Frame} {meth : Method} {c : Code} {A : Nat → Prop} {K : KX} (F : fx_ p s m args meth c cX2_inodes 1 (some .int) RX2 wsX2_inodes) (σ : XS) (o : (Int32 × XS)) (hf : fXX2_inodes_3_0 (kn K) σ = some o) (H : Heap) (locs : List Loc) (ls : Array Slot) (hl : lv_has ls 1 [(0, .ref (ka K 3))]) (hW : gw_ (kD K) vwCl (tyX K) (wX K) A s σ H locs) : W p l e rXX2_inodes_3 s m args below meth c H locs 0 0 (MQ below (gw_Qi (kD K) vwCl (tyX K) (wX K) A o) args s rXX2_inodes_3.cells rXX2_inodes_3.slots A) (F0 m 0 ls []) := by
  have hx := F.1
  have hb := F.2.1
  have hml := F.2.2.2.1
  have hown := F.2.2.2.2.1
  have hts := F.2.2.2.2.2.1
  have hG : ∀ x ∈ gT, x.before args s = true := fun x h => hts x (List.mem_cons_of_mem _ h)
  unfold fXX2_inodes_3_0 at hf
  refine lv_aload_n hx hb dX2_inodes_0 rfl (lv_at hl 0 rfl) ?_
  refine gw_get (v := .int (σ.1 3)) F inc_X2 hW 3 2 2 (aX_3 K σ) rfl (by decide) (hG _ q_1_66) (fun _ h9 => h9) rfl dX2_inodes_1 ?_
  refine lv_aload_n hx hb dX2_inodes_4 rfl (lv_at hl 0 rfl) ?_
  refine gw_get (v := .int (σ.1 4)) F inc_X2 hW 3 2 3 (aX_3 K σ) rfl (by decide) (hG _ q_1_67) (fun _ h9 => h9) rfl dX2_inodes_5 ?_
  refine lv_imul hx hb dX2_inodes_8 ?_
  exact gw_reti F hW hf dX2_inodes_9
set_option maxHeartbeats 4000000 in
set_option maxRecDepth 100000 in
theorem mXX2_inodes_3 {l : Launch} {K : KX} {σ : XS} {o : (Int32 × XS)} (hf : fXX2_inodes_3 (kn K) σ = some o) : gw_Mi l (kD K) vwCl (tyX K) (wX K) yX2_inodes wsX2_inodes rXX2_inodes_3 [.ref (ka K 3)] σ o := by
  intro sz
  refine gw_body (cc := cX2_inodes) (maxL := 1) (yret := some .int) (by decide +kernel) rfl ?_ (Nat.le_of_ble_eq_true rfl)
  intro p e s m below meth c F hsz hW ls hl
  exact wXX2_inodes_3_0 F σ o hf s.heap [] ls hl hW
abbrev rXX1_put4_1 : Room := { frames := 0, cells := 0, slots := 0, locals := 0 }
set_option maxHeartbeats 4000000 in
set_option maxRecDepth 100000 in
theorem wXX1_put4_1_0 {p : Program} {l : Launch} {e : Env} {s : State} {m : MethodId} {args : Array Value} {below : List Frame} {meth : Method} {c : Code} {A : Nat → Prop} {K : KX} (F : fx_ p s m args meth c cX1_put4 3 none RX1 wsX1_put4) (x1 : Int32) (x2 : Int32) (σ : XS) (o : XS) (hf : fXX1_put4_1_0 (kn K) x1 x2 σ = some o) (H : Heap) (locs : List Loc) (ls : Array Slot) (hl : lv_has ls 3 [(0, .ref (ka K 1)), (1, .int x1), (2, .int x2)]) (hW : gw_ (kD K) vwCl (tyX K) (wX K) A s σ H locs) : W p l e rXX1_put4_1 s m args below meth c H locs 0 0 (MQ below (gw_Qv (kD K) vwCl (tyX K) (wX K) A o) args s rXX1_put4_1.cells rXX1_put4_1.slots A) (F0 m 0 ls []) := by
  have hx := F.1
  have hb := F.2.1
  have hml := F.2.2.2.1
  have hown := F.2.2.2.2.1
  have hts := F.2.2.2.2.2.1
  have hG : ∀ x ∈ gT, x.before args s = true := fun x h => hts x (List.mem_cons_of_mem _ h)
  unfold fXX1_put4_1_0 at hf
  refine lv_iload_n hx hb dX1_put4_0 rfl (lv_at hl 1 rfl) ?_
  refine lv_if_lt (tgt := 62) hx hb dX1_put4_1 (by decide) (fun c1 => ?_) (fun c1 => ?_)
  · replace hf := (if_pos c1).symm.trans hf
    exact gw_retv F hW hf dX1_put4_62
  · replace hf := (if_neg c1).symm.trans hf
    refine lv_iload_n hx hb dX1_put4_4 rfl (lv_at hl 1 rfl) ?_
    refine lv_aload_n hx hb dX1_put4_5 rfl (lv_at hl 0 rfl) ?_
    refine gw_get (v := .ref (ka K 2)) F inc_X1 hW 1 1 0 (aX_1 K σ) rfl (by decide) (hG _ q_1_53) (fun _ h9 => h9) rfl dX1_put4_6 ?_
    refine gw_alen F hW 2 0 (aX_2 K σ) rfl dX1_put4_9 ?_
    refine lv_iconst (v := (4 : Int32)) hx hb dX1_put4_10 (by decide) ?_
    refine lv_isub hx hb dX1_put4_11 ?_
    refine lv_icmp_gt (tgt := 62) hx hb dX1_put4_12 (by decide) (fun c2 => ?_) (fun c2 => ?_)
    · replace hf := (if_pos c2).symm.trans hf
      exact gw_retv F hW hf dX1_put4_62
    · replace hf := (if_neg c2).symm.trans hf
      refine lv_aload_n hx hb dX1_put4_15 rfl (lv_at hl 0 rfl) ?_
      refine gw_get (v := .ref (ka K 2)) F inc_X1 hW 1 1 0 (aX_1 K σ) rfl (by decide) (hG _ q_1_53) (fun _ h9 => h9) rfl dX1_put4_16 ?_
      refine lv_iload_n hx hb dX1_put4_19 rfl (lv_at hl 1 rfl) ?_
      refine lv_iload_n hx hb dX1_put4_20 rfl (lv_at hl 2 rfl) ?_
      refine lv_i2b (v := x2.toInt8.toInt32) hx hb dX1_put4_21 rfl ?_
      rcases Decidable.em (x1 < 0 ∨ ((kn K) * 1024) ≤ x1.toNatClampNeg) with c3 | c3
      · replace hf := (if_pos c3).symm.trans hf
        exact absurd hf (by simp)
      · replace hf := (if_neg c3).symm.trans hf
        refine gw_bast (σ' := (stA σ 0 x1.toNatClampNeg (vp_nar .byte x2.toInt8.toInt32))) F hW 2 0 (aX_2 K σ) rfl c3 dX1_put4_22 (sAX_0 _ _ _) (fun H locs hW => ?_)
        refine lv_aload_n hx hb dX1_put4_23 rfl (lv_at hl 0 rfl) ?_
        refine gw_get (v := .ref (ka K 2)) F inc_X1 hW 1 1 0 (aX_1 K (stA σ 0 x1.toNatClampNeg (vp_nar .byte x2.toInt8.toInt32))) rfl (by decide) (hG _ q_1_53) (fun _ h9 => h9) rfl dX1_put4_24 ?_
        refine lv_iload_n hx hb dX1_put4_27 rfl (lv_at hl 1 rfl) ?_
        refine lv_iconst (v := (1 : Int32)) hx hb dX1_put4_28 (by decide) ?_
        refine lv_iadd hx hb dX1_put4_29 ?_
        refine lv_iload_n hx hb dX1_put4_30 rfl (lv_at hl 2 rfl) ?_
        refine lv_bipush (v := (8 : Int32)) hx hb dX1_put4_31 (by decide) ?_
        refine lv_ishr hx hb dX1_put4_33 ?_
        refine lv_i2b (v := (x2 >>> ((8 : Int32) &&& 31)).toInt8.toInt32) hx hb dX1_put4_34 rfl ?_
        rcases Decidable.em ((x1 + (1 : Int32)) < 0 ∨ ((kn K) * 1024) ≤ (x1 + (1 : Int32)).toNatClampNeg) with c4 | c4
        · replace hf := (if_pos c4).symm.trans hf
          exact absurd hf (by simp)
        · replace hf := (if_neg c4).symm.trans hf
          refine gw_bast (σ' := (stA (stA σ 0 x1.toNatClampNeg (vp_nar .byte x2.toInt8.toInt32)) 0 (x1 + (1 : Int32)).toNatClampNeg (vp_nar .byte ((x2 >>> ((8 : Int32) &&& 31)).toInt8.toInt32)))) F hW 2 0 (aX_2 K (stA σ 0 x1.toNatClampNeg (vp_nar .byte x2.toInt8.toInt32))) rfl c4 dX1_put4_35 (sAX_0 _ _ _) (fun H locs hW => ?_)
          refine lv_aload_n hx hb dX1_put4_36 rfl (lv_at hl 0 rfl) ?_
          refine gw_get (v := .ref (ka K 2)) F inc_X1 hW 1 1 0 (aX_1 K (stA (stA σ 0 x1.toNatClampNeg (vp_nar .byte x2.toInt8.toInt32)) 0 (x1 + (1 : Int32)).toNatClampNeg (vp_nar .byte ((x2 >>> ((8 : Int32) &&& 31)).toInt8.toInt32)))) rfl (by decide) (hG _ q_1_53) (fun _ h9 => h9) rfl dX1_put4_37 ?_
          refine lv_iload_n hx hb dX1_put4_40 rfl (lv_at hl 1 rfl) ?_
          refine lv_iconst (v := (2 : Int32)) hx hb dX1_put4_41 (by decide) ?_
          refine lv_iadd hx hb dX1_put4_42 ?_
          refine lv_iload_n hx hb dX1_put4_43 rfl (lv_at hl 2 rfl) ?_
          refine lv_bipush (v := (16 : Int32)) hx hb dX1_put4_44 (by decide) ?_
          refine lv_ishr hx hb dX1_put4_46 ?_
          refine lv_i2b (v := (x2 >>> ((16 : Int32) &&& 31)).toInt8.toInt32) hx hb dX1_put4_47 rfl ?_
          rcases Decidable.em ((x1 + (2 : Int32)) < 0 ∨ ((kn K) * 1024) ≤ (x1 + (2 : Int32)).toNatClampNeg) with c5 | c5
          · replace hf := (if_pos c5).symm.trans hf
            exact absurd hf (by simp)
          · replace hf := (if_neg c5).symm.trans hf
            refine gw_bast (σ' := (stA (stA (stA σ 0 x1.toNatClampNeg (vp_nar .byte x2.toInt8.toInt32)) 0 (x1 + (1 : Int32)).toNatClampNeg (vp_nar .byte ((x2 >>> ((8 : Int32) &&& 31)).toInt8.toInt32))) 0 (x1 + (2 : Int32)).toNatClampNeg (vp_nar .byte ((x2 >>> ((16 : Int32) &&& 31)).toInt8.toInt32)))) F hW 2 0 (aX_2 K (stA (stA σ 0 x1.toNatClampNeg (vp_nar .byte x2.toInt8.toInt32)) 0 (x1 + (1 : Int32)).toNatClampNeg (vp_nar .byte ((x2 >>> ((8 : Int32) &&& 31)).toInt8.toInt32)))) rfl c5 dX1_put4_48 (sAX_0 _ _ _) (fun H locs hW => ?_)
            refine lv_aload_n hx hb dX1_put4_49 rfl (lv_at hl 0 rfl) ?_
            refine gw_get (v := .ref (ka K 2)) F inc_X1 hW 1 1 0 (aX_1 K (stA (stA (stA σ 0 x1.toNatClampNeg (vp_nar .byte x2.toInt8.toInt32)) 0 (x1 + (1 : Int32)).toNatClampNeg (vp_nar .byte ((x2 >>> ((8 : Int32) &&& 31)).toInt8.toInt32))) 0 (x1 + (2 : Int32)).toNatClampNeg (vp_nar .byte ((x2 >>> ((16 : Int32) &&& 31)).toInt8.toInt32)))) rfl (by decide) (hG _ q_1_53) (fun _ h9 => h9) rfl dX1_put4_50 ?_
            refine lv_iload_n hx hb dX1_put4_53 rfl (lv_at hl 1 rfl) ?_
            refine lv_iconst (v := (3 : Int32)) hx hb dX1_put4_54 (by decide) ?_
            refine lv_iadd hx hb dX1_put4_55 ?_
            refine lv_iload_n hx hb dX1_put4_56 rfl (lv_at hl 2 rfl) ?_
            refine lv_bipush (v := (24 : Int32)) hx hb dX1_put4_57 (by decide) ?_
            refine lv_ishr hx hb dX1_put4_59 ?_
            refine lv_i2b (v := (x2 >>> ((24 : Int32) &&& 31)).toInt8.toInt32) hx hb dX1_put4_60 rfl ?_
            rcases Decidable.em ((x1 + (3 : Int32)) < 0 ∨ ((kn K) * 1024) ≤ (x1 + (3 : Int32)).toNatClampNeg) with c6 | c6
            · replace hf := (if_pos c6).symm.trans hf
              exact absurd hf (by simp)
            · replace hf := (if_neg c6).symm.trans hf
              refine gw_bast (σ' := (stA (stA (stA (stA σ 0 x1.toNatClampNeg (vp_nar .byte x2.toInt8.toInt32)) 0 (x1 + (1 : Int32)).toNatClampNeg (vp_nar .byte ((x2 >>> ((8 : Int32) &&& 31)).toInt8.toInt32))) 0 (x1 + (2 : Int32)).toNatClampNeg (vp_nar .byte ((x2 >>> ((16 : Int32) &&& 31)).toInt8.toInt32))) 0 (x1 + (3 : Int32)).toNatClampNeg (vp_nar .byte ((x2 >>> ((24 : Int32) &&& 31)).toInt8.toInt32)))) F hW 2 0 (aX_2 K (stA (stA (stA σ 0 x1.toNatClampNeg (vp_nar .byte x2.toInt8.toInt32)) 0 (x1 + (1 : Int32)).toNatClampNeg (vp_nar .byte ((x2 >>> ((8 : Int32) &&& 31)).toInt8.toInt32))) 0 (x1 + (2 : Int32)).toNatClampNeg (vp_nar .byte ((x2 >>> ((16 : Int32) &&& 31)).toInt8.toInt32)))) rfl c6 dX1_put4_61 (sAX_0 _ _ _) (fun H locs hW => ?_)
              exact gw_retv F hW hf dX1_put4_62
set_option maxHeartbeats 4000000 in
set_option maxRecDepth 100000 in
theorem mXX1_put4_1 {l : Launch} {K : KX} {σ : XS} {x1 : Int32} {x2 : Int32} {o : XS} (hf : fXX1_put4_1 (kn K) x1 x2 σ = some o) : gw_Mv l (kD K) vwCl (tyX K) (wX K) yX1_put4 wsX1_put4 rXX1_put4_1 [.ref (ka K 1), .int x1, .int x2] σ o := by
  intro sz
  refine gw_body (cc := cX1_put4) (maxL := 3) (yret := none) (by decide +kernel) rfl ?_ (Nat.le_of_ble_eq_true rfl)
  intro p e s m below meth c F hsz hW ls hl
  exact wXX1_put4_1_0 F x1 x2 σ o hf s.heap [] ls hl hW
abbrev rXX2_blocks_3 : Room := { frames := 0, cells := 0, slots := 0, locals := 0 }
set_option maxHeartbeats 4000000 in
set_option maxRecDepth 100000 in
theorem wXX2_blocks_3_0 {p : Program} {l : Launch} {e : Env} {s : State} {m : MethodId} {args : Array Value} {below : List Frame} {meth : Method} {c : Code} {A : Nat → Prop} {K : KX} (F : fx_ p s m args meth c cX2_blocks 1 (some .int) RX2 wsX2_blocks) (σ : XS) (o : (Int32 × XS)) (hf : fXX2_blocks_3_0 (kn K) σ = some o) (H : Heap) (locs : List Loc) (ls : Array Slot) (hl : lv_has ls 1 [(0, .ref (ka K 3))]) (hW : gw_ (kD K) vwCl (tyX K) (wX K) A s σ H locs) : W p l e rXX2_blocks_3 s m args below meth c H locs 0 0 (MQ below (gw_Qi (kD K) vwCl (tyX K) (wX K) A o) args s rXX2_blocks_3.cells rXX2_blocks_3.slots A) (F0 m 0 ls []) := by
  have hx := F.1
  have hb := F.2.1
  have hml := F.2.2.2.1
  have hown := F.2.2.2.2.1
  have hts := F.2.2.2.2.2.1
  have hG : ∀ x ∈ gT, x.before args s = true := fun x h => hts x (List.mem_cons_of_mem _ h)
  unfold fXX2_blocks_3_0 at hf
  refine lv_aload_n hx hb dX2_blocks_0 rfl (lv_at hl 0 rfl) ?_
  refine gw_get (v := .int (Int32.ofNat (kn K))) F inc_X2 hW 3 2 0 (aX_3 K σ) rfl (by decide) (hG _ q_1_64) (fun _ h9 => h9) rfl dX2_blocks_1 ?_
  exact gw_reti F hW hf dX2_blocks_4
set_option maxHeartbeats 4000000 in
set_option maxRecDepth 100000 in
theorem mXX2_blocks_3 {l : Launch} {K : KX} {σ : XS} {o : (Int32 × XS)} (hf : fXX2_blocks_3 (kn K) σ = some o) : gw_Mi l (kD K) vwCl (tyX K) (wX K) yX2_blocks wsX2_blocks rXX2_blocks_3 [.ref (ka K 3)] σ o := by
  intro sz
  refine gw_body (cc := cX2_blocks) (maxL := 1) (yret := some .int) (by decide +kernel) rfl ?_ (Nat.le_of_ble_eq_true rfl)
  intro p e s m below meth c F hsz hW ls hl
  exact wXX2_blocks_3_0 F σ o hf s.heap [] ls hl hW
abbrev rXX1_put2_1 : Room := { frames := 0, cells := 0, slots := 0, locals := 0 }
set_option maxHeartbeats 4000000 in
set_option maxRecDepth 100000 in
theorem wXX1_put2_1_0 {p : Program} {l : Launch} {e : Env} {s : State} {m : MethodId} {args : Array Value} {below : List Frame} {meth : Method} {c : Code} {A : Nat → Prop} {K : KX} (F : fx_ p s m args meth c cX1_put2 3 none RX1 wsX1_put2) (x1 : Int32) (x2 : Int32) (σ : XS) (o : XS) (hf : fXX1_put2_1_0 (kn K) x1 x2 σ = some o) (H : Heap) (locs : List Loc) (ls : Array Slot) (hl : lv_has ls 3 [(0, .ref (ka K 1)), (1, .int x1), (2, .int x2)]) (hW : gw_ (kD K) vwCl (tyX K) (wX K) A s σ H locs) : W p l e rXX1_put2_1 s m args below meth c H locs 0 0 (MQ below (gw_Qv (kD K) vwCl (tyX K) (wX K) A o) args s rXX1_put2_1.cells rXX1_put2_1.slots A) (F0 m 0 ls []) := by
  have hx := F.1
  have hb := F.2.1
  have hml := F.2.2.2.1
  have hown := F.2.2.2.2.1
  have hts := F.2.2.2.2.2.1
  have hG : ∀ x ∈ gT, x.before args s = true := fun x h => hts x (List.mem_cons_of_mem _ h)
  unfold fXX1_put2_1_0 at hf
  refine lv_iload_n hx hb dX1_put2_0 rfl (lv_at hl 1 rfl) ?_
  refine lv_if_lt (tgt := 36) hx hb dX1_put2_1 (by decide) (fun c1 => ?_) (fun c1 => ?_)
  · replace hf := (if_pos c1).symm.trans hf
    exact gw_retv F hW hf dX1_put2_36
  · replace hf := (if_neg c1).symm.trans hf
    refine lv_iload_n hx hb dX1_put2_4 rfl (lv_at hl 1 rfl) ?_
    refine lv_aload_n hx hb dX1_put2_5 rfl (lv_at hl 0 rfl) ?_
    refine gw_get (v := .ref (ka K 2)) F inc_X1 hW 1 1 0 (aX_1 K σ) rfl (by decide) (hG _ q_1_53) (fun _ h9 => h9) rfl dX1_put2_6 ?_
    refine gw_alen F hW 2 0 (aX_2 K σ) rfl dX1_put2_9 ?_
    refine lv_iconst (v := (2 : Int32)) hx hb dX1_put2_10 (by decide) ?_
    refine lv_isub hx hb dX1_put2_11 ?_
    refine lv_icmp_gt (tgt := 36) hx hb dX1_put2_12 (by decide) (fun c2 => ?_) (fun c2 => ?_)
    · replace hf := (if_pos c2).symm.trans hf
      exact gw_retv F hW hf dX1_put2_36
    · replace hf := (if_neg c2).symm.trans hf
      refine lv_aload_n hx hb dX1_put2_15 rfl (lv_at hl 0 rfl) ?_
      refine gw_get (v := .ref (ka K 2)) F inc_X1 hW 1 1 0 (aX_1 K σ) rfl (by decide) (hG _ q_1_53) (fun _ h9 => h9) rfl dX1_put2_16 ?_
      refine lv_iload_n hx hb dX1_put2_19 rfl (lv_at hl 1 rfl) ?_
      refine lv_iload_n hx hb dX1_put2_20 rfl (lv_at hl 2 rfl) ?_
      refine lv_i2b (v := x2.toInt8.toInt32) hx hb dX1_put2_21 rfl ?_
      rcases Decidable.em (x1 < 0 ∨ ((kn K) * 1024) ≤ x1.toNatClampNeg) with c3 | c3
      · replace hf := (if_pos c3).symm.trans hf
        exact absurd hf (by simp)
      · replace hf := (if_neg c3).symm.trans hf
        refine gw_bast (σ' := (stA σ 0 x1.toNatClampNeg (vp_nar .byte x2.toInt8.toInt32))) F hW 2 0 (aX_2 K σ) rfl c3 dX1_put2_22 (sAX_0 _ _ _) (fun H locs hW => ?_)
        refine lv_aload_n hx hb dX1_put2_23 rfl (lv_at hl 0 rfl) ?_
        refine gw_get (v := .ref (ka K 2)) F inc_X1 hW 1 1 0 (aX_1 K (stA σ 0 x1.toNatClampNeg (vp_nar .byte x2.toInt8.toInt32))) rfl (by decide) (hG _ q_1_53) (fun _ h9 => h9) rfl dX1_put2_24 ?_
        refine lv_iload_n hx hb dX1_put2_27 rfl (lv_at hl 1 rfl) ?_
        refine lv_iconst (v := (1 : Int32)) hx hb dX1_put2_28 (by decide) ?_
        refine lv_iadd hx hb dX1_put2_29 ?_
        refine lv_iload_n hx hb dX1_put2_30 rfl (lv_at hl 2 rfl) ?_
        refine lv_bipush (v := (8 : Int32)) hx hb dX1_put2_31 (by decide) ?_
        refine lv_ishr hx hb dX1_put2_33 ?_
        refine lv_i2b (v := (x2 >>> ((8 : Int32) &&& 31)).toInt8.toInt32) hx hb dX1_put2_34 rfl ?_
        rcases Decidable.em ((x1 + (1 : Int32)) < 0 ∨ ((kn K) * 1024) ≤ (x1 + (1 : Int32)).toNatClampNeg) with c4 | c4
        · replace hf := (if_pos c4).symm.trans hf
          exact absurd hf (by simp)
        · replace hf := (if_neg c4).symm.trans hf
          refine gw_bast (σ' := (stA (stA σ 0 x1.toNatClampNeg (vp_nar .byte x2.toInt8.toInt32)) 0 (x1 + (1 : Int32)).toNatClampNeg (vp_nar .byte ((x2 >>> ((8 : Int32) &&& 31)).toInt8.toInt32)))) F hW 2 0 (aX_2 K (stA σ 0 x1.toNatClampNeg (vp_nar .byte x2.toInt8.toInt32))) rfl c4 dX1_put2_35 (sAX_0 _ _ _) (fun H locs hW => ?_)
          exact gw_retv F hW hf dX1_put2_36
set_option maxHeartbeats 4000000 in
set_option maxRecDepth 100000 in
theorem mXX1_put2_1 {l : Launch} {K : KX} {σ : XS} {x1 : Int32} {x2 : Int32} {o : XS} (hf : fXX1_put2_1 (kn K) x1 x2 σ = some o) : gw_Mv l (kD K) vwCl (tyX K) (wX K) yX1_put2 wsX1_put2 rXX1_put2_1 [.ref (ka K 1), .int x1, .int x2] σ o := by
  intro sz
  refine gw_body (cc := cX1_put2) (maxL := 3) (yret := none) (by decide +kernel) rfl ?_ (Nat.le_of_ble_eq_true rfl)
  intro p e s m below meth c F hsz hW ls hl
  exact wXX1_put2_1_0 F x1 x2 σ o hf s.heap [] ls hl hW
abbrev rXJ11_bitCount : Room := { frames := 0, cells := 0, slots := 0, locals := 0 }
set_option maxHeartbeats 4000000 in
set_option maxRecDepth 100000 in
theorem wXJ11_bitCount_41 {p : Program} {l : Launch} {e : Env} {s : State} {m : MethodId} {args : Array Value} {below : List Frame} {meth : Method} {c : Code} {A : Nat → Prop} {K : KX} (F : fx_ p s m args meth c cJ11_bitCount 1 (some .int) RJ11 wsJ11_bitCount) (x0 : Int32) (σ : XS) (o : (Int32 × XS)) (hf : fXJ11_bitCount_41 (kn K) x0 σ = some o) (H : Heap) (locs : List Loc) (ls : Array Slot) (hl : lv_has ls 1 [(0, .int x0)]) (hW : gw_ (kD K) vwCl (tyX K) (wX K) A s σ H locs) : W p l e rXJ11_bitCount s m args below meth c H locs 0 0 (MQ below (gw_Qi (kD K) vwCl (tyX K) (wX K) A o) args s rXJ11_bitCount.cells rXJ11_bitCount.slots A) (F0 m 41 ls []) := by
  have hx := F.1
  have hb := F.2.1
  have hml := F.2.2.2.1
  have hown := F.2.2.2.2.1
  have hts := F.2.2.2.2.2.1
  have hG : ∀ x ∈ gT, x.before args s = true := fun x h => hts x (List.mem_cons_of_mem _ h)
  unfold fXJ11_bitCount_41 at hf
  refine lv_iload_n hx hb dJ11_bitCount_41 rfl (lv_at hl 0 rfl) ?_
  refine lv_iload_n hx hb dJ11_bitCount_42 rfl (lv_at hl 0 rfl) ?_
  refine lv_bipush (v := (16 : Int32)) hx hb dJ11_bitCount_43 (by decide) ?_
  refine lv_iushr (v := (x0.toUInt32 >>> ((16 : Int32).toUInt32 &&& Int32.toUInt32 31)).toInt32) hx hb dJ11_bitCount_45 rfl ?_
  refine lv_iadd hx hb dJ11_bitCount_46 ?_
  refine lv_istore_n (lv' := [(0, .int (x0 + (x0.toUInt32 >>> ((16 : Int32).toUInt32 &&& Int32.toUInt32 31)).toInt32))]) hx hb dJ11_bitCount_47 rfl hl (by decide) rfl (fun ls hl => ?_)
  refine lv_iload_n hx hb dJ11_bitCount_48 rfl (lv_at hl 0 rfl) ?_
  refine lv_bipush (v := (63 : Int32)) hx hb dJ11_bitCount_49 (by decide) ?_
  refine lv_iand hx hb dJ11_bitCount_51 ?_
  exact gw_reti F hW hf dJ11_bitCount_52
set_option maxHeartbeats 4000000 in
set_option maxRecDepth 100000 in
theorem wXJ11_bitCount_24 {p : Program} {l : Launch} {e : Env} {s : State} {m : MethodId} {args : Array Value} {below : List Frame} {meth : Method} {c : Code} {A : Nat → Prop} {K : KX} (F : fx_ p s m args meth c cJ11_bitCount 1 (some .int) RJ11 wsJ11_bitCount) (x0 : Int32) (σ : XS) (o : (Int32 × XS)) (hf : fXJ11_bitCount_24 (kn K) x0 σ = some o) (H : Heap) (locs : List Loc) (ls : Array Slot) (hl : lv_has ls 1 [(0, .int x0)]) (hW : gw_ (kD K) vwCl (tyX K) (wX K) A s σ H locs) : W p l e rXJ11_bitCount s m args below meth c H locs 0 0 (MQ below (gw_Qi (kD K) vwCl (tyX K) (wX K) A o) args s rXJ11_bitCount.cells rXJ11_bitCount.slots A) (F0 m 24 ls []) := by
  have hx := F.1
  have hb := F.2.1
  have hml := F.2.2.2.1
  have hown := F.2.2.2.2.1
  have hts := F.2.2.2.2.2.1
  have hG : ∀ x ∈ gT, x.before args s = true := fun x h => hts x (List.mem_cons_of_mem _ h)
  unfold fXJ11_bitCount_24 at hf
  refine lv_iload_n hx hb dJ11_bitCount_24 rfl (lv_at hl 0 rfl) ?_
  refine lv_iload_n hx hb dJ11_bitCount_25 rfl (lv_at hl 0 rfl) ?_
  refine lv_iconst (v := (4 : Int32)) hx hb dJ11_bitCount_26 (by decide) ?_
  refine lv_iushr (v := (x0.toUInt32 >>> ((4 : Int32).toUInt32 &&& Int32.toUInt32 31)).toInt32) hx hb dJ11_bitCount_27 rfl ?_
  refine lv_iadd hx hb dJ11_bitCount_28 ?_
  refine lv_ldcw (own := RJ11) (v := (252645135 : Int32)) hx hb hown (hts _ (List.mem_cons_of_mem _ q_4_149)) dJ11_bitCount_29 ?_
  refine lv_iand hx hb dJ11_bitCount_32 ?_
  refine lv_istore_n (lv' := [(0, .int ((x0 + (x0.toUInt32 >>> ((4 : Int32).toUInt32 &&& Int32.toUInt32 31)).toInt32) &&& (252645135 : Int32)))]) hx hb dJ11_bitCount_33 rfl hl (by decide) rfl (fun ls hl => ?_)
  refine lv_iload_n hx hb dJ11_bitCount_34 rfl (lv_at hl 0 rfl) ?_
  refine lv_iload_n hx hb dJ11_bitCount_35 rfl (lv_at hl 0 rfl) ?_
  refine lv_bipush (v := (8 : Int32)) hx hb dJ11_bitCount_36 (by decide) ?_
  refine lv_iushr (v := (((x0 + (x0.toUInt32 >>> ((4 : Int32).toUInt32 &&& Int32.toUInt32 31)).toInt32) &&& (252645135 : Int32)).toUInt32 >>> ((8 : Int32).toUInt32 &&& Int32.toUInt32 31)).toInt32) hx hb dJ11_bitCount_38 rfl ?_
  refine lv_iadd hx hb dJ11_bitCount_39 ?_
  refine lv_istore_n (lv' := [(0, .int (((x0 + (x0.toUInt32 >>> ((4 : Int32).toUInt32 &&& Int32.toUInt32 31)).toInt32) &&& (252645135 : Int32)) + (((x0 + (x0.toUInt32 >>> ((4 : Int32).toUInt32 &&& Int32.toUInt32 31)).toInt32) &&& (252645135 : Int32)).toUInt32 >>> ((8 : Int32).toUInt32 &&& Int32.toUInt32 31)).toInt32))]) hx hb dJ11_bitCount_40 rfl hl (by decide) rfl (fun ls hl => ?_)
  exact wXJ11_bitCount_41 F (((x0 + (x0.toUInt32 >>> ((4 : Int32).toUInt32 &&& Int32.toUInt32 31)).toInt32) &&& (252645135 : Int32)) + (((x0 + (x0.toUInt32 >>> ((4 : Int32).toUInt32 &&& Int32.toUInt32 31)).toInt32) &&& (252645135 : Int32)).toUInt32 >>> ((8 : Int32).toUInt32 &&& Int32.toUInt32 31)).toInt32) _ _ hf _ _ _ (lv_sub hl [0] rfl) hW
set_option maxHeartbeats 4000000 in
set_option maxRecDepth 100000 in
theorem wXJ11_bitCount_0 {p : Program} {l : Launch} {e : Env} {s : State} {m : MethodId} {args : Array Value} {below : List Frame} {meth : Method} {c : Code} {A : Nat → Prop} {K : KX} (F : fx_ p s m args meth c cJ11_bitCount 1 (some .int) RJ11 wsJ11_bitCount) (x0 : Int32) (σ : XS) (o : (Int32 × XS)) (hf : fXJ11_bitCount_0 (kn K) x0 σ = some o) (H : Heap) (locs : List Loc) (ls : Array Slot) (hl : lv_has ls 1 [(0, .int x0)]) (hW : gw_ (kD K) vwCl (tyX K) (wX K) A s σ H locs) : W p l e rXJ11_bitCount s m args below meth c H locs 0 0 (MQ below (gw_Qi (kD K) vwCl (tyX K) (wX K) A o) args s rXJ11_bitCount.cells rXJ11_bitCount.slots A) (F0 m 0 ls []) := by
  have hx := F.1
  have hb := F.2.1
  have hml := F.2.2.2.1
  have hown := F.2.2.2.2.1
  have hts := F.2.2.2.2.2.1
  have hG : ∀ x ∈ gT, x.before args s = true := fun x h => hts x (List.mem_cons_of_mem _ h)
  unfold fXJ11_bitCount_0 at hf
  refine lv_iload_n hx hb dJ11_bitCount_0 rfl (lv_at hl 0 rfl) ?_
  refine lv_iload_n hx hb dJ11_bitCount_1 rfl (lv_at hl 0 rfl) ?_
  refine lv_iconst (v := (1 : Int32)) hx hb dJ11_bitCount_2 (by decide) ?_
  refine lv_iushr (v := (x0.toUInt32 >>> ((1 : Int32).toUInt32 &&& Int32.toUInt32 31)).toInt32) hx hb dJ11_bitCount_3 rfl ?_
  refine lv_ldcw (own := RJ11) (v := (1431655765 : Int32)) hx hb hown (hts _ (List.mem_cons_of_mem _ q_4_147)) dJ11_bitCount_4 ?_
  refine lv_iand hx hb dJ11_bitCount_7 ?_
  refine lv_isub hx hb dJ11_bitCount_8 ?_
  refine lv_istore_n (lv' := [(0, .int (x0 - ((x0.toUInt32 >>> ((1 : Int32).toUInt32 &&& Int32.toUInt32 31)).toInt32 &&& (1431655765 : Int32))))]) hx hb dJ11_bitCount_9 rfl hl (by decide) rfl (fun ls hl => ?_)
  refine lv_iload_n hx hb dJ11_bitCount_10 rfl (lv_at hl 0 rfl) ?_
  refine lv_ldcw (own := RJ11) (v := (858993459 : Int32)) hx hb hown (hts _ (List.mem_cons_of_mem _ q_4_148)) dJ11_bitCount_11 ?_
  refine lv_iand hx hb dJ11_bitCount_14 ?_
  refine lv_iload_n hx hb dJ11_bitCount_15 rfl (lv_at hl 0 rfl) ?_
  refine lv_iconst (v := (2 : Int32)) hx hb dJ11_bitCount_16 (by decide) ?_
  refine lv_iushr (v := ((x0 - ((x0.toUInt32 >>> ((1 : Int32).toUInt32 &&& Int32.toUInt32 31)).toInt32 &&& (1431655765 : Int32))).toUInt32 >>> ((2 : Int32).toUInt32 &&& Int32.toUInt32 31)).toInt32) hx hb dJ11_bitCount_17 rfl ?_
  refine lv_ldcw (own := RJ11) (v := (858993459 : Int32)) hx hb hown (hts _ (List.mem_cons_of_mem _ q_4_148)) dJ11_bitCount_18 ?_
  refine lv_iand hx hb dJ11_bitCount_21 ?_
  refine lv_iadd hx hb dJ11_bitCount_22 ?_
  refine lv_istore_n (lv' := [(0, .int (((x0 - ((x0.toUInt32 >>> ((1 : Int32).toUInt32 &&& Int32.toUInt32 31)).toInt32 &&& (1431655765 : Int32))) &&& (858993459 : Int32)) + (((x0 - ((x0.toUInt32 >>> ((1 : Int32).toUInt32 &&& Int32.toUInt32 31)).toInt32 &&& (1431655765 : Int32))).toUInt32 >>> ((2 : Int32).toUInt32 &&& Int32.toUInt32 31)).toInt32 &&& (858993459 : Int32))))]) hx hb dJ11_bitCount_23 rfl hl (by decide) rfl (fun ls hl => ?_)
  exact wXJ11_bitCount_24 F (((x0 - ((x0.toUInt32 >>> ((1 : Int32).toUInt32 &&& Int32.toUInt32 31)).toInt32 &&& (1431655765 : Int32))) &&& (858993459 : Int32)) + (((x0 - ((x0.toUInt32 >>> ((1 : Int32).toUInt32 &&& Int32.toUInt32 31)).toInt32 &&& (1431655765 : Int32))).toUInt32 >>> ((2 : Int32).toUInt32 &&& Int32.toUInt32 31)).toInt32 &&& (858993459 : Int32))) _ _ hf _ _ _ (lv_sub hl [0] rfl) hW
set_option maxHeartbeats 4000000 in
set_option maxRecDepth 100000 in
theorem mXJ11_bitCount {l : Launch} {K : KX} {σ : XS} {x0 : Int32} {o : (Int32 × XS)} (hf : fXJ11_bitCount (kn K) x0 σ = some o) : gw_Mi l (kD K) vwCl (tyX K) (wX K) yJ11_bitCount wsJ11_bitCount rXJ11_bitCount [.int x0] σ o := by
  intro sz
  refine gw_body (cc := cJ11_bitCount) (maxL := 1) (yret := some .int) (by decide +kernel) rfl ?_ (Nat.le_of_ble_eq_true rfl)
  intro p e s m below meth c F hsz hW ls hl
  exact wXJ11_bitCount_0 F x0 σ o hf s.heap [] ls hl hW
abbrev rXX3_freeIn_4 : Room := { frames := 1, cells := 0, slots := 0, locals := 22 }
def PXX3_freeIn_4_18 (p : Program) (l : Launch) (e : Env) (s : State) (m : MethodId) (args : Array Value) (below : List Frame) (meth : Method) (c : Code) (A : Nat → Prop) (K : KX) (t : (Int32 × Int32 × Int32 × XS)) (o : (Int32 × XS)) : Prop := ∀ (H : Heap) (locs : List Loc) (ls : Array Slot), lv_has ls 5 [(0, .ref (ka K 4)), (2, .int t.1), (3, .int t.2.1), (4, .int t.2.2.1)] → gw_ (kD K) vwCl (tyX K) (wX K) A s t.2.2.2 H locs → W p l e rXX3_freeIn_4 s m args below meth c H locs 0 0 (MQ below (gw_Qi (kD K) vwCl (tyX K) (wX K) A o) args s rXX3_freeIn_4.cells rXX3_freeIn_4.slots A) (F0 m 18 ls [])
set_option maxHeartbeats 4000000 in
set_option maxRecDepth 100000 in
theorem wXX3_freeIn_4_18 {p : Program} {l : Launch} {e : Env} {s : State} {m : MethodId} {args : Array Value} {below : List Frame} {meth : Method} {c : Code} {A : Nat → Prop} {K : KX} (F : fx_ p s m args meth c cX3_freeIn 5 (some .int) RX3 wsX3_freeIn) {k18 : (Int32 × Int32 × Int32 × XS) → Option (Int32 × XS)} (hk18 : ∀ t o, k18 t = some o → PXX3_freeIn_4_18 p l e s m args below meth c A K t o) (x2 : Int32) (x3 : Int32) (x4 : Int32) (σ : XS) (o : (Int32 × XS)) (hf : fXX3_freeIn_4_18 (kn K) k18 x2 x3 x4 σ = some o) (H : Heap) (locs : List Loc) (ls : Array Slot) (hl : lv_has ls 5 [(0, .ref (ka K 4)), (2, .int x2), (3, .int x3), (4, .int x4)]) (hW : gw_ (kD K) vwCl (tyX K) (wX K) A s σ H locs) : W p l e rXX3_freeIn_4 s m args below meth c H locs 0 0 (MQ below (gw_Qi (kD K) vwCl (tyX K) (wX K) A o) args s rXX3_freeIn_4.cells rXX3_freeIn_4.slots A) (F0 m 18 ls []) := by
  have hx := F.1
  have hb := F.2.1
  have hml := F.2.2.2.1
  have hown := F.2.2.2.2.1
  have hts := F.2.2.2.2.2.1
  have hG : ∀ x ∈ gT, x.before args s = true := fun x h => hts x (List.mem_cons_of_mem _ h)
  unfold fXX3_freeIn_4_18 at hf
  refine lv_iload hx hb dX3_freeIn_18 (lv_at hl 3 rfl) ?_
  refine lv_aload_n hx hb dX3_freeIn_20 rfl (lv_at hl 0 rfl) ?_
  refine gw_get (v := .int (σ.1 5)) F inc_X3 hW 4 3 5 (aX_4 K σ) rfl (by decide) (hG _ q_1_88) (fun _ h9 => h9) rfl dX3_freeIn_21 ?_
  refine lv_bipush (v := (8 : Int32)) hx hb dX3_freeIn_24 (by decide) ?_
  refine lv_idiv hx hb dX3_freeIn_26 (by decide) ?_
  refine lv_icmp_ge (tgt := 56) hx hb dX3_freeIn_27 (by decide) (fun c4 => ?_) (fun c4 => ?_)
  · replace hf := (if_pos c4).symm.trans hf
    refine lv_iload_n hx hb dX3_freeIn_56 rfl (lv_at hl 2 rfl) ?_
    exact gw_reti F hW hf dX3_freeIn_57
  · replace hf := (if_neg c4).symm.trans hf
    refine lv_iload_n hx hb dX3_freeIn_30 rfl (lv_at hl 2 rfl) ?_
    refine lv_bipush (v := (8 : Int32)) hx hb dX3_freeIn_31 (by decide) ?_
    refine lv_aload_n hx hb dX3_freeIn_33 rfl (lv_at hl 0 rfl) ?_
    refine gw_get (v := .ref (ka K 1)) F inc_X3 hW 4 3 0 (aX_4 K σ) rfl (by decide) (hG _ q_1_83) (fun _ h9 => h9) rfl dX3_freeIn_34 ?_
    refine lv_iload_n hx hb dX3_freeIn_37 rfl (lv_at hl 1 rfl) ?_
    refine lv_iload hx hb dX3_freeIn_38 (lv_at hl 3 rfl) ?_
    refine lv_iadd hx hb dX3_freeIn_40 ?_
    obtain ⟨o5, h6, hf⟩ := gw_bind hf
    refine gw_Vi (As := [.int (x2 + x4)]) (mc' := 0) (ms' := 0) F hW (mXX1_get_1 h6) (cwV 1 hts (gT_V q_2_55 q_2_56 q_2_57 q_1_3 q_2_58) rfl rfl rfl hdX1_get ⟨Nat.le_of_ble_eq_true rfl, Nat.le_of_ble_eq_true rfl⟩) 1 1 (aX_1 K σ) rfl rfl hl.1 rfl (Nat.le_of_ble_eq_true rfl) dX3_freeIn_41 ⟨Nat.le_of_ble_eq_true rfl, Nat.le_of_ble_eq_true rfl⟩ rfl rfl (fun H locs hW => ?_)
    obtain ⟨o8, h9, hf⟩ := gw_bind hf
    refine gw_Si (As := [.int o5.1]) (mc' := 0) (ms' := 0) F hW (mXJ11_bitCount h9) (va_cwS 1 hts (gT_S q_4_144 q_4_145 q_1_26 q_4_146) rfl rfl rfl hdJ11_bitCount.2 ⟨Nat.le_of_ble_eq_true rfl, Nat.le_of_ble_eq_true rfl⟩) rfl hl.1 rfl (Nat.le_of_ble_eq_true rfl) dX3_freeIn_44 ⟨Nat.le_of_ble_eq_true rfl, Nat.le_of_ble_eq_true rfl⟩ rfl rfl (fun H locs hW => ?_)
    refine lv_isub hx hb dX3_freeIn_47 ?_
    refine lv_iadd hx hb dX3_freeIn_48 ?_
    refine lv_istore_n (lv' := [(3, .int (x3 + ((8 : Int32) - o8.1))), (0, .ref (ka K 4)), (2, .int x2), (4, .int x4)]) hx hb dX3_freeIn_49 rfl hl (by decide) rfl (fun ls hl => ?_)
    refine lv_iinc (v := (x4 + (1 : Int32))) (lv' := [(4, .int (x4 + (1 : Int32))), (3, .int (x3 + ((8 : Int32) - o8.1))), (0, .ref (ka K 4)), (2, .int x2)]) hx hb dX3_freeIn_50 hl (k := 3) rfl rfl (by decide) rfl (fun ls hl => ?_)
    refine lv_goto (tgt := 18) hx hb dX3_freeIn_53 (by decide) ?_
    exact hk18 _ _ hf _ _ _ (lv_sub hl [2, 3, 1, 0] rfl) hW
set_option maxHeartbeats 4000000 in
set_option maxRecDepth 100000 in
theorem wXX3_freeIn_4_0 {p : Program} {l : Launch} {e : Env} {s : State} {m : MethodId} {args : Array Value} {below : List Frame} {meth : Method} {c : Code} {A : Nat → Prop} {K : KX} (F : fx_ p s m args meth c cX3_freeIn 5 (some .int) RX3 wsX3_freeIn) (x1 : Int32) (σ : XS) (o : (Int32 × XS)) (hf : fXX3_freeIn_4_0 (kn K) x1 σ = some o) (H : Heap) (locs : List Loc) (ls : Array Slot) (hl : lv_has ls 5 [(0, .ref (ka K 4)), (1, .int x1)]) (hW : gw_ (kD K) vwCl (tyX K) (wX K) A s σ H locs) : W p l e rXX3_freeIn_4 s m args below meth c H locs 0 0 (MQ below (gw_Qi (kD K) vwCl (tyX K) (wX K) A o) args s rXX3_freeIn_4.cells rXX3_freeIn_4.slots A) (F0 m 0 ls []) := by
  have hx := F.1
  have hb := F.2.1
  have hml := F.2.2.2.1
  have hown := F.2.2.2.2.1
  have hts := F.2.2.2.2.2.1
  have hG : ∀ x ∈ gT, x.before args s = true := fun x h => hts x (List.mem_cons_of_mem _ h)
  unfold fXX3_freeIn_4_0 at hf
  refine lv_aload_n hx hb dX3_freeIn_0 rfl (lv_at hl 0 rfl) ?_
  refine gw_get (v := .ref (ka K 3)) F inc_X3 hW 4 3 1 (aX_4 K σ) rfl (by decide) (hG _ q_1_84) (fun _ h9 => h9) rfl dX3_freeIn_1 ?_
  refine lv_iload_n hx hb dX3_freeIn_4 rfl (lv_at hl 1 rfl) ?_
  refine lv_aload_n hx hb dX3_freeIn_5 rfl (lv_at hl 0 rfl) ?_
  refine gw_get (v := .int (2 : Int32)) F inc_X3 hW 4 3 2 (aX_4 K σ) rfl (by decide) (hG _ q_1_85) (fun _ h9 => h9) rfl dX3_freeIn_6 ?_
  obtain ⟨o1, h2, hf⟩ := gw_bind hf
  refine gw_Vi (As := [.int x1, .int (2 : Int32)]) (mc' := 0) (ms' := 0) F hW (mXX2_partAt_3 h2) (cwV 2 hts (gT_V q_2_51 q_2_52 q_2_53 q_1_4 q_2_54) rfl rfl rfl hdX2_partAt ⟨Nat.le_of_ble_eq_true rfl, Nat.le_of_ble_eq_true rfl⟩) 3 2 (aX_3 K σ) rfl rfl hl.1 rfl (Nat.le_of_ble_eq_true rfl) dX3_freeIn_9 ⟨Nat.le_of_ble_eq_true rfl, Nat.le_of_ble_eq_true rfl⟩ rfl rfl (fun H locs hW => ?_)
  refine lv_istore_n (lv' := [(2, .int o1.1), (0, .ref (ka K 4)), (1, .int x1)]) hx hb dX3_freeIn_12 rfl hl (by decide) rfl (fun ls hl => ?_)
  refine lv_iconst (v := (0 : Int32)) hx hb dX3_freeIn_13 (by decide) ?_
  refine lv_istore_n (lv' := [(3, .int (0 : Int32)), (2, .int o1.1), (0, .ref (ka K 4)), (1, .int x1)]) hx hb dX3_freeIn_14 rfl hl (by decide) rfl (fun ls hl => ?_)
  refine lv_iconst (v := (0 : Int32)) hx hb dX3_freeIn_15 (by decide) ?_
  refine lv_istore (lv' := [(4, .int (0 : Int32)), (3, .int (0 : Int32)), (2, .int o1.1), (0, .ref (ka K 4)), (1, .int x1)]) hx hb dX3_freeIn_16 hl (by decide) rfl (fun ls hl => ?_)
  exact lfix_ind (P := PXX3_freeIn_4_18 p l e s m args below meth c A K) (fun k18 hk18 t o hf => wXX3_freeIn_4_18 F hk18 t.1 t.2.1 t.2.2.1 t.2.2.2 o hf) FU _ _ hf _ _ _ (lv_sub hl [3, 2, 1, 0] rfl) hW
set_option maxHeartbeats 4000000 in
set_option maxRecDepth 100000 in
theorem mXX3_freeIn_4 {l : Launch} {K : KX} {σ : XS} {x1 : Int32} {o : (Int32 × XS)} (hf : fXX3_freeIn_4 (kn K) x1 σ = some o) : gw_Mi l (kD K) vwCl (tyX K) (wX K) yX3_freeIn wsX3_freeIn rXX3_freeIn_4 [.ref (ka K 4), .int x1] σ o := by
  intro sz
  refine gw_body (cc := cX3_freeIn) (maxL := 5) (yret := some .int) (by decide +kernel) rfl ?_ (Nat.le_of_ble_eq_true rfl)
  intro p e s m below meth c F hsz hW ls hl
  exact wXX3_freeIn_4_0 F x1 σ o hf s.heap [] ls hl hW
abbrev rXX3_freeIn_5 : Room := { frames := 1, cells := 0, slots := 0, locals := 22 }
def PXX3_freeIn_5_18 (p : Program) (l : Launch) (e : Env) (s : State) (m : MethodId) (args : Array Value) (below : List Frame) (meth : Method) (c : Code) (A : Nat → Prop) (K : KX) (t : (Int32 × Int32 × Int32 × XS)) (o : (Int32 × XS)) : Prop := ∀ (H : Heap) (locs : List Loc) (ls : Array Slot), lv_has ls 5 [(0, .ref (ka K 5)), (2, .int t.1), (3, .int t.2.1), (4, .int t.2.2.1)] → gw_ (kD K) vwCl (tyX K) (wX K) A s t.2.2.2 H locs → W p l e rXX3_freeIn_5 s m args below meth c H locs 0 0 (MQ below (gw_Qi (kD K) vwCl (tyX K) (wX K) A o) args s rXX3_freeIn_5.cells rXX3_freeIn_5.slots A) (F0 m 18 ls [])
set_option maxHeartbeats 4000000 in
set_option maxRecDepth 100000 in
theorem wXX3_freeIn_5_18 {p : Program} {l : Launch} {e : Env} {s : State} {m : MethodId} {args : Array Value} {below : List Frame} {meth : Method} {c : Code} {A : Nat → Prop} {K : KX} (F : fx_ p s m args meth c cX3_freeIn 5 (some .int) RX3 wsX3_freeIn) {k18 : (Int32 × Int32 × Int32 × XS) → Option (Int32 × XS)} (hk18 : ∀ t o, k18 t = some o → PXX3_freeIn_5_18 p l e s m args below meth c A K t o) (x2 : Int32) (x3 : Int32) (x4 : Int32) (σ : XS) (o : (Int32 × XS)) (hf : fXX3_freeIn_5_18 (kn K) k18 x2 x3 x4 σ = some o) (H : Heap) (locs : List Loc) (ls : Array Slot) (hl : lv_has ls 5 [(0, .ref (ka K 5)), (2, .int x2), (3, .int x3), (4, .int x4)]) (hW : gw_ (kD K) vwCl (tyX K) (wX K) A s σ H locs) : W p l e rXX3_freeIn_5 s m args below meth c H locs 0 0 (MQ below (gw_Qi (kD K) vwCl (tyX K) (wX K) A o) args s rXX3_freeIn_5.cells rXX3_freeIn_5.slots A) (F0 m 18 ls []) := by
  have hx := F.1
  have hb := F.2.1
  have hml := F.2.2.2.1
  have hown := F.2.2.2.2.1
  have hts := F.2.2.2.2.2.1
  have hG : ∀ x ∈ gT, x.before args s = true := fun x h => hts x (List.mem_cons_of_mem _ h)
  unfold fXX3_freeIn_5_18 at hf
  refine lv_iload hx hb dX3_freeIn_18 (lv_at hl 3 rfl) ?_
  refine lv_aload_n hx hb dX3_freeIn_20 rfl (lv_at hl 0 rfl) ?_
  refine gw_get (v := .int (σ.1 6)) F inc_X3 hW 5 3 5 (aX_5 K σ) rfl (by decide) (hG _ q_1_88) (fun _ h9 => h9) rfl dX3_freeIn_21 ?_
  refine lv_bipush (v := (8 : Int32)) hx hb dX3_freeIn_24 (by decide) ?_
  refine lv_idiv hx hb dX3_freeIn_26 (by decide) ?_
  refine lv_icmp_ge (tgt := 56) hx hb dX3_freeIn_27 (by decide) (fun c4 => ?_) (fun c4 => ?_)
  · replace hf := (if_pos c4).symm.trans hf
    refine lv_iload_n hx hb dX3_freeIn_56 rfl (lv_at hl 2 rfl) ?_
    exact gw_reti F hW hf dX3_freeIn_57
  · replace hf := (if_neg c4).symm.trans hf
    refine lv_iload_n hx hb dX3_freeIn_30 rfl (lv_at hl 2 rfl) ?_
    refine lv_bipush (v := (8 : Int32)) hx hb dX3_freeIn_31 (by decide) ?_
    refine lv_aload_n hx hb dX3_freeIn_33 rfl (lv_at hl 0 rfl) ?_
    refine gw_get (v := .ref (ka K 1)) F inc_X3 hW 5 3 0 (aX_5 K σ) rfl (by decide) (hG _ q_1_83) (fun _ h9 => h9) rfl dX3_freeIn_34 ?_
    refine lv_iload_n hx hb dX3_freeIn_37 rfl (lv_at hl 1 rfl) ?_
    refine lv_iload hx hb dX3_freeIn_38 (lv_at hl 3 rfl) ?_
    refine lv_iadd hx hb dX3_freeIn_40 ?_
    obtain ⟨o5, h6, hf⟩ := gw_bind hf
    refine gw_Vi (As := [.int (x2 + x4)]) (mc' := 0) (ms' := 0) F hW (mXX1_get_1 h6) (cwV 1 hts (gT_V q_2_55 q_2_56 q_2_57 q_1_3 q_2_58) rfl rfl rfl hdX1_get ⟨Nat.le_of_ble_eq_true rfl, Nat.le_of_ble_eq_true rfl⟩) 1 1 (aX_1 K σ) rfl rfl hl.1 rfl (Nat.le_of_ble_eq_true rfl) dX3_freeIn_41 ⟨Nat.le_of_ble_eq_true rfl, Nat.le_of_ble_eq_true rfl⟩ rfl rfl (fun H locs hW => ?_)
    obtain ⟨o8, h9, hf⟩ := gw_bind hf
    refine gw_Si (As := [.int o5.1]) (mc' := 0) (ms' := 0) F hW (mXJ11_bitCount h9) (va_cwS 1 hts (gT_S q_4_144 q_4_145 q_1_26 q_4_146) rfl rfl rfl hdJ11_bitCount.2 ⟨Nat.le_of_ble_eq_true rfl, Nat.le_of_ble_eq_true rfl⟩) rfl hl.1 rfl (Nat.le_of_ble_eq_true rfl) dX3_freeIn_44 ⟨Nat.le_of_ble_eq_true rfl, Nat.le_of_ble_eq_true rfl⟩ rfl rfl (fun H locs hW => ?_)
    refine lv_isub hx hb dX3_freeIn_47 ?_
    refine lv_iadd hx hb dX3_freeIn_48 ?_
    refine lv_istore_n (lv' := [(3, .int (x3 + ((8 : Int32) - o8.1))), (0, .ref (ka K 5)), (2, .int x2), (4, .int x4)]) hx hb dX3_freeIn_49 rfl hl (by decide) rfl (fun ls hl => ?_)
    refine lv_iinc (v := (x4 + (1 : Int32))) (lv' := [(4, .int (x4 + (1 : Int32))), (3, .int (x3 + ((8 : Int32) - o8.1))), (0, .ref (ka K 5)), (2, .int x2)]) hx hb dX3_freeIn_50 hl (k := 3) rfl rfl (by decide) rfl (fun ls hl => ?_)
    refine lv_goto (tgt := 18) hx hb dX3_freeIn_53 (by decide) ?_
    exact hk18 _ _ hf _ _ _ (lv_sub hl [2, 3, 1, 0] rfl) hW
set_option maxHeartbeats 4000000 in
set_option maxRecDepth 100000 in
theorem wXX3_freeIn_5_0 {p : Program} {l : Launch} {e : Env} {s : State} {m : MethodId} {args : Array Value} {below : List Frame} {meth : Method} {c : Code} {A : Nat → Prop} {K : KX} (F : fx_ p s m args meth c cX3_freeIn 5 (some .int) RX3 wsX3_freeIn) (x1 : Int32) (σ : XS) (o : (Int32 × XS)) (hf : fXX3_freeIn_5_0 (kn K) x1 σ = some o) (H : Heap) (locs : List Loc) (ls : Array Slot) (hl : lv_has ls 5 [(0, .ref (ka K 5)), (1, .int x1)]) (hW : gw_ (kD K) vwCl (tyX K) (wX K) A s σ H locs) : W p l e rXX3_freeIn_5 s m args below meth c H locs 0 0 (MQ below (gw_Qi (kD K) vwCl (tyX K) (wX K) A o) args s rXX3_freeIn_5.cells rXX3_freeIn_5.slots A) (F0 m 0 ls []) := by
  have hx := F.1
  have hb := F.2.1
  have hml := F.2.2.2.1
  have hown := F.2.2.2.2.1
  have hts := F.2.2.2.2.2.1
  have hG : ∀ x ∈ gT, x.before args s = true := fun x h => hts x (List.mem_cons_of_mem _ h)
  unfold fXX3_freeIn_5_0 at hf
  refine lv_aload_n hx hb dX3_freeIn_0 rfl (lv_at hl 0 rfl) ?_
  refine gw_get (v := .ref (ka K 3)) F inc_X3 hW 5 3 1 (aX_5 K σ) rfl (by decide) (hG _ q_1_84) (fun _ h9 => h9) rfl dX3_freeIn_1 ?_
  refine lv_iload_n hx hb dX3_freeIn_4 rfl (lv_at hl 1 rfl) ?_
  refine lv_aload_n hx hb dX3_freeIn_5 rfl (lv_at hl 0 rfl) ?_
  refine gw_get (v := .int (3 : Int32)) F inc_X3 hW 5 3 2 (aX_5 K σ) rfl (by decide) (hG _ q_1_85) (fun _ h9 => h9) rfl dX3_freeIn_6 ?_
  obtain ⟨o1, h2, hf⟩ := gw_bind hf
  refine gw_Vi (As := [.int x1, .int (3 : Int32)]) (mc' := 0) (ms' := 0) F hW (mXX2_partAt_3 h2) (cwV 2 hts (gT_V q_2_51 q_2_52 q_2_53 q_1_4 q_2_54) rfl rfl rfl hdX2_partAt ⟨Nat.le_of_ble_eq_true rfl, Nat.le_of_ble_eq_true rfl⟩) 3 2 (aX_3 K σ) rfl rfl hl.1 rfl (Nat.le_of_ble_eq_true rfl) dX3_freeIn_9 ⟨Nat.le_of_ble_eq_true rfl, Nat.le_of_ble_eq_true rfl⟩ rfl rfl (fun H locs hW => ?_)
  refine lv_istore_n (lv' := [(2, .int o1.1), (0, .ref (ka K 5)), (1, .int x1)]) hx hb dX3_freeIn_12 rfl hl (by decide) rfl (fun ls hl => ?_)
  refine lv_iconst (v := (0 : Int32)) hx hb dX3_freeIn_13 (by decide) ?_
  refine lv_istore_n (lv' := [(3, .int (0 : Int32)), (2, .int o1.1), (0, .ref (ka K 5)), (1, .int x1)]) hx hb dX3_freeIn_14 rfl hl (by decide) rfl (fun ls hl => ?_)
  refine lv_iconst (v := (0 : Int32)) hx hb dX3_freeIn_15 (by decide) ?_
  refine lv_istore (lv' := [(4, .int (0 : Int32)), (3, .int (0 : Int32)), (2, .int o1.1), (0, .ref (ka K 5)), (1, .int x1)]) hx hb dX3_freeIn_16 hl (by decide) rfl (fun ls hl => ?_)
  exact lfix_ind (P := PXX3_freeIn_5_18 p l e s m args below meth c A K) (fun k18 hk18 t o hf => wXX3_freeIn_5_18 F hk18 t.1 t.2.1 t.2.2.1 t.2.2.2 o hf) FU _ _ hf _ _ _ (lv_sub hl [3, 2, 1, 0] rfl) hW
set_option maxHeartbeats 4000000 in
set_option maxRecDepth 100000 in
theorem mXX3_freeIn_5 {l : Launch} {K : KX} {σ : XS} {x1 : Int32} {o : (Int32 × XS)} (hf : fXX3_freeIn_5 (kn K) x1 σ = some o) : gw_Mi l (kD K) vwCl (tyX K) (wX K) yX3_freeIn wsX3_freeIn rXX3_freeIn_5 [.ref (ka K 5), .int x1] σ o := by
  intro sz
  refine gw_body (cc := cX3_freeIn) (maxL := 5) (yret := some .int) (by decide +kernel) rfl ?_ (Nat.le_of_ble_eq_true rfl)
  intro p e s m below meth c F hsz hW ls hl
  exact wXX3_freeIn_5_0 F x1 σ o hf s.heap [] ls hl hW
abbrev rXX1_get2_1 : Room := { frames := 0, cells := 0, slots := 0, locals := 0 }
set_option maxHeartbeats 4000000 in
set_option maxRecDepth 100000 in
theorem wXX1_get2_1_0 {p : Program} {l : Launch} {e : Env} {s : State} {m : MethodId} {args : Array Value} {below : List Frame} {meth : Method} {c : Code} {A : Nat → Prop} {K : KX} (F : fx_ p s m args meth c cX1_get2 2 (some .int) RX1 wsX1_get2) (x1 : Int32) (σ : XS) (o : (Int32 × XS)) (hf : fXX1_get2_1_0 (kn K) x1 σ = some o) (H : Heap) (locs : List Loc) (ls : Array Slot) (hl : lv_has ls 2 [(0, .ref (ka K 1)), (1, .int x1)]) (hW : gw_ (kD K) vwCl (tyX K) (wX K) A s σ H locs) : W p l e rXX1_get2_1 s m args below meth c H locs 0 0 (MQ below (gw_Qi (kD K) vwCl (tyX K) (wX K) A o) args s rXX1_get2_1.cells rXX1_get2_1.slots A) (F0 m 0 ls []) := by
  have hx := F.1
  have hb := F.2.1
  have hml := F.2.2.2.1
  have hown := F.2.2.2.2.1
  have hts := F.2.2.2.2.2.1
  have hG : ∀ x ∈ gT, x.before args s = true := fun x h => hts x (List.mem_cons_of_mem _ h)
  unfold fXX1_get2_1_0 at hf
  refine lv_iload_n hx hb dX1_get2_0 rfl (lv_at hl 1 rfl) ?_
  refine lv_if_lt (tgt := 15) hx hb dX1_get2_1 (by decide) (fun c1 => ?_) (fun c1 => ?_)
  · replace hf := (if_pos c1).symm.trans hf
    refine lv_iconst (v := (0 : Int32)) hx hb dX1_get2_15 (by decide) ?_
    exact gw_reti F hW hf dX1_get2_16
  · replace hf := (if_neg c1).symm.trans hf
    refine lv_iload_n hx hb dX1_get2_4 rfl (lv_at hl 1 rfl) ?_
    refine lv_aload_n hx hb dX1_get2_5 rfl (lv_at hl 0 rfl) ?_
    refine gw_get (v := .ref (ka K 2)) F inc_X1 hW 1 1 0 (aX_1 K σ) rfl (by decide) (hG _ q_1_53) (fun _ h9 => h9) rfl dX1_get2_6 ?_
    refine gw_alen F hW 2 0 (aX_2 K σ) rfl dX1_get2_9 ?_
    refine lv_iconst (v := (2 : Int32)) hx hb dX1_get2_10 (by decide) ?_
    refine lv_isub hx hb dX1_get2_11 ?_
    refine lv_icmp_le (tgt := 17) hx hb dX1_get2_12 (by decide) (fun c2 => ?_) (fun c2 => ?_)
    · replace hf := (if_pos c2).symm.trans hf
      refine lv_aload_n hx hb dX1_get2_17 rfl (lv_at hl 0 rfl) ?_
      refine gw_get (v := .ref (ka K 2)) F inc_X1 hW 1 1 0 (aX_1 K σ) rfl (by decide) (hG _ q_1_53) (fun _ h9 => h9) rfl dX1_get2_18 ?_
      refine lv_iload_n hx hb dX1_get2_21 rfl (lv_at hl 1 rfl) ?_
      rcases Decidable.em (x1 < 0 ∨ ((kn K) * 1024) ≤ x1.toNatClampNeg) with c3 | c3
      · replace hf := (if_pos c3).symm.trans hf
        exact absurd hf (by simp)
      · replace hf := (if_neg c3).symm.trans hf
        refine gw_bald F hW 2 0 (aX_2 K σ) rfl c3 dX1_get2_22 ?_
        refine lv_sipush (v := (255 : Int32)) hx hb dX1_get2_23 (by decide) ?_
        refine lv_iand hx hb dX1_get2_26 ?_
        refine lv_aload_n hx hb dX1_get2_27 rfl (lv_at hl 0 rfl) ?_
        refine gw_get (v := .ref (ka K 2)) F inc_X1 hW 1 1 0 (aX_1 K σ) rfl (by decide) (hG _ q_1_53) (fun _ h9 => h9) rfl dX1_get2_28 ?_
        refine lv_iload_n hx hb dX1_get2_31 rfl (lv_at hl 1 rfl) ?_
        refine lv_iconst (v := (1 : Int32)) hx hb dX1_get2_32 (by decide) ?_
        refine lv_iadd hx hb dX1_get2_33 ?_
        rcases Decidable.em ((x1 + (1 : Int32)) < 0 ∨ ((kn K) * 1024) ≤ (x1 + (1 : Int32)).toNatClampNeg) with c4 | c4
        · replace hf := (if_pos c4).symm.trans hf
          exact absurd hf (by simp)
        · replace hf := (if_neg c4).symm.trans hf
          refine gw_bald F hW 2 0 (aX_2 K σ) rfl c4 dX1_get2_34 ?_
          refine lv_sipush (v := (255 : Int32)) hx hb dX1_get2_35 (by decide) ?_
          refine lv_iand hx hb dX1_get2_38 ?_
          refine lv_bipush (v := (8 : Int32)) hx hb dX1_get2_39 (by decide) ?_
          refine lv_ishl hx hb dX1_get2_41 ?_
          refine lv_ior hx hb dX1_get2_42 ?_
          exact gw_reti F hW hf dX1_get2_43
    · replace hf := (if_neg c2).symm.trans hf
      refine lv_iconst (v := (0 : Int32)) hx hb dX1_get2_15 (by decide) ?_
      exact gw_reti F hW hf dX1_get2_16
set_option maxHeartbeats 4000000 in
set_option maxRecDepth 100000 in
theorem mXX1_get2_1 {l : Launch} {K : KX} {σ : XS} {x1 : Int32} {o : (Int32 × XS)} (hf : fXX1_get2_1 (kn K) x1 σ = some o) : gw_Mi l (kD K) vwCl (tyX K) (wX K) yX1_get2 wsX1_get2 rXX1_get2_1 [.ref (ka K 1), .int x1] σ o := by
  intro sz
  refine gw_body (cc := cX1_get2) (maxL := 2) (yret := some .int) (by decide +kernel) rfl ?_ (Nat.le_of_ble_eq_true rfl)
  intro p e s m below meth c F hsz hW ls hl
  exact wXX1_get2_1_0 F x1 σ o hf s.heap [] ls hl hW
abbrev rXX4_directoriesIn_6 : Room := { frames := 1, cells := 0, slots := 0, locals := 22 }
def PXX4_directoriesIn_6_15 (p : Program) (l : Launch) (e : Env) (s : State) (m : MethodId) (args : Array Value) (below : List Frame) (meth : Method) (c : Code) (A : Nat → Prop) (K : KX) (t : (Int32 × Int32 × Int32 × XS)) (o : (Int32 × XS)) : Prop := ∀ (H : Heap) (locs : List Loc) (ls : Array Slot), lv_has ls 5 [(0, .ref (ka K 6)), (2, .int t.1), (3, .int t.2.1), (4, .int t.2.2.1)] → gw_ (kD K) vwCl (tyX K) (wX K) A s t.2.2.2 H locs → W p l e rXX4_directoriesIn_6 s m args below meth c H locs 0 0 (MQ below (gw_Qi (kD K) vwCl (tyX K) (wX K) A o) args s rXX4_directoriesIn_6.cells rXX4_directoriesIn_6.slots A) (F0 m 15 ls [])
set_option maxHeartbeats 4000000 in
set_option maxRecDepth 100000 in
theorem wXX4_directoriesIn_6_51 {p : Program} {l : Launch} {e : Env} {s : State} {m : MethodId} {args : Array Value} {below : List Frame} {meth : Method} {c : Code} {A : Nat → Prop} {K : KX} (F : fx_ p s m args meth c cX4_directoriesIn 5 (some .int) RX4 wsX4_directoriesIn) {k15 : (Int32 × Int32 × Int32 × XS) → Option (Int32 × XS)} (hk15 : ∀ t o, k15 t = some o → PXX4_directoriesIn_6_15 p l e s m args below meth c A K t o) (x2 : Int32) (x3 : Int32) (x4 : Int32) (σ : XS) (o : (Int32 × XS)) (hf : fXX4_directoriesIn_6_51 (kn K) k15 x2 x3 x4 σ = some o) (H : Heap) (locs : List Loc) (ls : Array Slot) (hl : lv_has ls 5 [(0, .ref (ka K 6)), (2, .int x2), (3, .int x3), (4, .int x4)]) (hW : gw_ (kD K) vwCl (tyX K) (wX K) A s σ H locs) : W p l e rXX4_directoriesIn_6 s m args below meth c H locs 0 0 (MQ below (gw_Qi (kD K) vwCl (tyX K) (wX K) A o) args s rXX4_directoriesIn_6.cells rXX4_directoriesIn_6.slots A) (F0 m 51 ls []) := by
  have hx := F.1
  have hb := F.2.1
  have hml := F.2.2.2.1
  have hown := F.2.2.2.2.1
  have hts := F.2.2.2.2.2.1
  have hG : ∀ x ∈ gT, x.before args s = true := fun x h => hts x (List.mem_cons_of_mem _ h)
  unfold fXX4_directoriesIn_6_51 at hf
  refine lv_iinc (v := (x4 + (1 : Int32))) (lv' := [(4, .int (x4 + (1 : Int32))), (0, .ref (ka K 6)), (2, .int x2), (3, .int x3)]) hx hb dX4_directoriesIn_51 hl (k := 3) rfl rfl (by decide) rfl (fun ls hl => ?_)
  refine lv_goto (tgt := 15) hx hb dX4_directoriesIn_54 (by decide) ?_
  exact hk15 _ _ hf _ _ _ (lv_sub hl [1, 2, 3, 0] rfl) hW
set_option maxHeartbeats 4000000 in
set_option maxRecDepth 100000 in
theorem wXX4_directoriesIn_6_15 {p : Program} {l : Launch} {e : Env} {s : State} {m : MethodId} {args : Array Value} {below : List Frame} {meth : Method} {c : Code} {A : Nat → Prop} {K : KX} (F : fx_ p s m args meth c cX4_directoriesIn 5 (some .int) RX4 wsX4_directoriesIn) {k15 : (Int32 × Int32 × Int32 × XS) → Option (Int32 × XS)} (hk15 : ∀ t o, k15 t = some o → PXX4_directoriesIn_6_15 p l e s m args below meth c A K t o) (x2 : Int32) (x3 : Int32) (x4 : Int32) (σ : XS) (o : (Int32 × XS)) (hf : fXX4_directoriesIn_6_15 (kn K) k15 x2 x3 x4 σ = some o) (H : Heap) (locs : List Loc) (ls : Array Slot) (hl : lv_has ls 5 [(0, .ref (ka K 6)), (2, .int x2), (3, .int x3), (4, .int x4)]) (hW : gw_ (kD K) vwCl (tyX K) (wX K) A s σ H locs) : W p l e rXX4_directoriesIn_6 s m args below meth c H locs 0 0 (MQ below (gw_Qi (kD K) vwCl (tyX K) (wX K) A o) args s rXX4_directoriesIn_6.cells rXX4_directoriesIn_6.slots A) (F0 m 15 ls []) := by
  have hx := F.1
  have hb := F.2.1
  have hml := F.2.2.2.1
  have hown := F.2.2.2.2.1
  have hts := F.2.2.2.2.2.1
  have hG : ∀ x ∈ gT, x.before args s = true := fun x h => hts x (List.mem_cons_of_mem _ h)
  unfold fXX4_directoriesIn_6_15 at hf
  refine lv_iload hx hb dX4_directoriesIn_15 (lv_at hl 3 rfl) ?_
  refine lv_aload_n hx hb dX4_directoriesIn_17 rfl (lv_at hl 0 rfl) ?_
  refine gw_get (v := .ref (ka K 3)) F inc_X4 hW 6 4 1 (aX_6 K σ) rfl (by decide) (hG _ q_1_109) (fun _ h9 => h9) rfl dX4_directoriesIn_18 ?_
  obtain ⟨o4, h5, hf⟩ := gw_bind hf
  refine gw_Vi (As := []) (mc' := 0) (ms' := 0) F hW (mXX2_groupInodes_3 h5) (cwV 0 hts (gT_V q_4_168 q_3_34 q_3_35 q_1_4 q_3_36) rfl rfl rfl hdX2_groupInodes ⟨Nat.le_of_ble_eq_true rfl, Nat.le_of_ble_eq_true rfl⟩) 3 2 (aX_3 K σ) rfl rfl hl.1 rfl (Nat.le_of_ble_eq_true rfl) dX4_directoriesIn_21 ⟨Nat.le_of_ble_eq_true rfl, Nat.le_of_ble_eq_true rfl⟩ rfl rfl (fun H locs hW => ?_)
  refine lv_icmp_ge (tgt := 57) hx hb dX4_directoriesIn_24 (by decide) (fun c7 => ?_) (fun c7 => ?_)
  · replace hf := (if_pos c7).symm.trans hf
    refine lv_iload_n hx hb dX4_directoriesIn_57 rfl (lv_at hl 1 rfl) ?_
    exact gw_reti F hW hf dX4_directoriesIn_58
  · replace hf := (if_neg c7).symm.trans hf
    refine lv_aload_n hx hb dX4_directoriesIn_27 rfl (lv_at hl 0 rfl) ?_
    refine gw_get (v := .ref (ka K 1)) F inc_X4 hW 6 4 0 (aX_6 K o4.2) rfl (by decide) (hG _ q_1_108) (fun _ h9 => h9) rfl dX4_directoriesIn_28 ?_
    refine lv_iload_n hx hb dX4_directoriesIn_31 rfl (lv_at hl 2 rfl) ?_
    refine lv_iload hx hb dX4_directoriesIn_32 (lv_at hl 3 rfl) ?_
    refine lv_sipush (v := (128 : Int32)) hx hb dX4_directoriesIn_34 (by decide) ?_
    refine lv_imul hx hb dX4_directoriesIn_37 ?_
    refine lv_iadd hx hb dX4_directoriesIn_38 ?_
    obtain ⟨o8, h9, hf⟩ := gw_bind hf
    refine gw_Vi (As := [.int (x3 + (x4 * (128 : Int32)))]) (mc' := 0) (ms' := 0) F hW (mXX1_get2_1 h9) (cwV 1 hts (gT_V q_2_148 q_2_110 q_2_111 q_1_3 q_2_112) rfl rfl rfl hdX1_get2 ⟨Nat.le_of_ble_eq_true rfl, Nat.le_of_ble_eq_true rfl⟩) 1 1 (aX_1 K o4.2) rfl rfl hl.1 rfl (Nat.le_of_ble_eq_true rfl) dX4_directoriesIn_39 ⟨Nat.le_of_ble_eq_true rfl, Nat.le_of_ble_eq_true rfl⟩ rfl rfl (fun H locs hW => ?_)
    refine lv_sipush (v := (16877 : Int32)) hx hb dX4_directoriesIn_42 (by decide) ?_
    refine lv_icmp_ne (tgt := 51) hx hb dX4_directoriesIn_45 (by decide) (fun c11 => ?_) (fun c11 => ?_)
    · replace hf := (if_neg c11).symm.trans hf
      exact wXX4_directoriesIn_6_51 F hk15 x2 x3 x4 _ _ hf _ _ _ (lv_sub hl [0, 1, 2, 3] rfl) hW
    · replace hf := (if_pos c11).symm.trans hf
      refine lv_iinc (v := (x2 + (1 : Int32))) (lv' := [(2, .int (x2 + (1 : Int32))), (0, .ref (ka K 6)), (3, .int x3), (4, .int x4)]) hx hb dX4_directoriesIn_48 hl (k := 1) rfl rfl (by decide) rfl (fun ls hl => ?_)
      exact wXX4_directoriesIn_6_51 F hk15 (x2 + (1 : Int32)) x3 x4 _ _ hf _ _ _ (lv_sub hl [1, 0, 2, 3] rfl) hW
set_option maxHeartbeats 4000000 in
set_option maxRecDepth 100000 in
theorem wXX4_directoriesIn_6_0 {p : Program} {l : Launch} {e : Env} {s : State} {m : MethodId} {args : Array Value} {below : List Frame} {meth : Method} {c : Code} {A : Nat → Prop} {K : KX} (F : fx_ p s m args meth c cX4_directoriesIn 5 (some .int) RX4 wsX4_directoriesIn) (x1 : Int32) (σ : XS) (o : (Int32 × XS)) (hf : fXX4_directoriesIn_6_0 (kn K) x1 σ = some o) (H : Heap) (locs : List Loc) (ls : Array Slot) (hl : lv_has ls 5 [(0, .ref (ka K 6)), (1, .int x1)]) (hW : gw_ (kD K) vwCl (tyX K) (wX K) A s σ H locs) : W p l e rXX4_directoriesIn_6 s m args below meth c H locs 0 0 (MQ below (gw_Qi (kD K) vwCl (tyX K) (wX K) A o) args s rXX4_directoriesIn_6.cells rXX4_directoriesIn_6.slots A) (F0 m 0 ls []) := by
  have hx := F.1
  have hb := F.2.1
  have hml := F.2.2.2.1
  have hown := F.2.2.2.2.1
  have hts := F.2.2.2.2.2.1
  have hG : ∀ x ∈ gT, x.before args s = true := fun x h => hts x (List.mem_cons_of_mem _ h)
  unfold fXX4_directoriesIn_6_0 at hf
  refine lv_iconst (v := (0 : Int32)) hx hb dX4_directoriesIn_0 (by decide) ?_
  refine lv_istore_n (lv' := [(2, .int (0 : Int32)), (0, .ref (ka K 6)), (1, .int x1)]) hx hb dX4_directoriesIn_1 rfl hl (by decide) rfl (fun ls hl => ?_)
  refine lv_aload_n hx hb dX4_directoriesIn_2 rfl (lv_at hl 1 rfl) ?_
  refine gw_get (v := .ref (ka K 3)) F inc_X4 hW 6 4 1 (aX_6 K σ) rfl (by decide) (hG _ q_1_109) (fun _ h9 => h9) rfl dX4_directoriesIn_3 ?_
  refine lv_iload_n hx hb dX4_directoriesIn_6 rfl (lv_at hl 2 rfl) ?_
  refine lv_iconst (v := (4 : Int32)) hx hb dX4_directoriesIn_7 (by decide) ?_
  obtain ⟨o1, h2, hf⟩ := gw_bind hf
  refine gw_Vi (As := [.int x1, .int (4 : Int32)]) (mc' := 0) (ms' := 0) F hW (mXX2_partAt_3 h2) (cwV 2 hts (gT_V q_4_167 q_2_52 q_2_53 q_1_4 q_2_54) rfl rfl rfl hdX2_partAt ⟨Nat.le_of_ble_eq_true rfl, Nat.le_of_ble_eq_true rfl⟩) 3 2 (aX_3 K σ) rfl rfl hl.1 rfl (Nat.le_of_ble_eq_true rfl) dX4_directoriesIn_8 ⟨Nat.le_of_ble_eq_true rfl, Nat.le_of_ble_eq_true rfl⟩ rfl rfl (fun H locs hW => ?_)
  refine lv_istore_n (lv' := [(3, .int o1.1), (2, .int (0 : Int32)), (0, .ref (ka K 6)), (1, .int x1)]) hx hb dX4_directoriesIn_11 rfl hl (by decide) rfl (fun ls hl => ?_)
  refine lv_iconst (v := (0 : Int32)) hx hb dX4_directoriesIn_12 (by decide) ?_
  refine lv_istore (lv' := [(4, .int (0 : Int32)), (3, .int o1.1), (2, .int (0 : Int32)), (0, .ref (ka K 6)), (1, .int x1)]) hx hb dX4_directoriesIn_13 hl (by decide) rfl (fun ls hl => ?_)
  exact lfix_ind (P := PXX4_directoriesIn_6_15 p l e s m args below meth c A K) (fun k15 hk15 t o hf => wXX4_directoriesIn_6_15 F hk15 t.1 t.2.1 t.2.2.1 t.2.2.2 o hf) FU _ _ hf _ _ _ (lv_sub hl [3, 2, 1, 0] rfl) hW
set_option maxHeartbeats 4000000 in
set_option maxRecDepth 100000 in
theorem mXX4_directoriesIn_6 {l : Launch} {K : KX} {σ : XS} {x1 : Int32} {o : (Int32 × XS)} (hf : fXX4_directoriesIn_6 (kn K) x1 σ = some o) : gw_Mi l (kD K) vwCl (tyX K) (wX K) yX4_directoriesIn wsX4_directoriesIn rXX4_directoriesIn_6 [.ref (ka K 6), .int x1] σ o := by
  intro sz
  refine gw_body (cc := cX4_directoriesIn) (maxL := 5) (yret := some .int) (by decide +kernel) rfl ?_ (Nat.le_of_ble_eq_true rfl)
  intro p e s m below meth c F hsz hW ls hl
  exact wXX4_directoriesIn_6_0 F x1 σ o hf s.heap [] ls hl hW
abbrev rXX6_describe_9_1 : Room := { frames := 2, cells := 0, slots := 0, locals := 46 }
set_option maxHeartbeats 4000000 in
set_option maxRecDepth 100000 in
theorem wXX6_describe_9_1_0 {p : Program} {l : Launch} {e : Env} {s : State} {m : MethodId} {args : Array Value} {below : List Frame} {meth : Method} {c : Code} {A : Nat → Prop} {K : KX} (F : fx_ p s m args meth c cX6_describe 5 none RX6 wsX6_describe) (x2 : Int32) (x3 : Int32) (σ : XS) (o : XS) (hf : fXX6_describe_9_1_0 (kn K) x2 x3 σ = some o) (H : Heap) (locs : List Loc) (ls : Array Slot) (hl : lv_has ls 5 [(0, .ref (ka K 9)), (1, .ref (ka K 1)), (2, .int x2), (3, .int x3)]) (hW : gw_ (kD K) vwCl (tyX K) (wX K) A s σ H locs) : W p l e rXX6_describe_9_1 s m args below meth c H locs 0 0 (MQ below (gw_Qv (kD K) vwCl (tyX K) (wX K) A o) args s rXX6_describe_9_1.cells rXX6_describe_9_1.slots A) (F0 m 0 ls []) := by
  have hx := F.1
  have hb := F.2.1
  have hml := F.2.2.2.1
  have hown := F.2.2.2.2.1
  have hts := F.2.2.2.2.2.1
  have hG : ∀ x ∈ gT, x.before args s = true := fun x h => hts x (List.mem_cons_of_mem _ h)
  unfold fXX6_describe_9_1_0 at hf
  refine lv_aload_n hx hb dX6_describe_0 rfl (lv_at hl 0 rfl) ?_
  refine gw_get (v := .ref (ka K 3)) F inc_X6 hW 9 6 0 (aX_9 K σ) rfl (by decide) (hG _ q_1_144) (fun _ h9 => h9) rfl dX6_describe_1 ?_
  refine lv_iload_n hx hb dX6_describe_4 rfl (lv_at hl 3 rfl) ?_
  obtain ⟨o1, h2, hf⟩ := gw_bind hf
  refine gw_Vi (As := [.int x3]) (mc' := 0) (ms' := 0) F hW (mXX2_firstBlock_3 h2) (cwV 1 hts (gT_V q_4_154 q_2_82 q_2_83 q_1_4 q_2_84) rfl rfl rfl hdX2_firstBlock ⟨Nat.le_of_ble_eq_true rfl, Nat.le_of_ble_eq_true rfl⟩) 3 2 (aX_3 K σ) rfl rfl hl.1 rfl (Nat.le_of_ble_eq_true rfl) dX6_describe_5 ⟨Nat.le_of_ble_eq_true rfl, Nat.le_of_ble_eq_true rfl⟩ rfl rfl (fun H locs hW => ?_)
  refine lv_istore (lv' := [(4, .int o1.1), (0, .ref (ka K 9)), (1, .ref (ka K 1)), (2, .int x2), (3, .int x3)]) hx hb dX6_describe_8 hl (by decide) rfl (fun ls hl => ?_)
  refine lv_aload_n hx hb dX6_describe_10 rfl (lv_at hl 2 rfl) ?_
  refine lv_iload_n hx hb dX6_describe_11 rfl (lv_at hl 3 rfl) ?_
  refine lv_iload hx hb dX6_describe_12 (lv_at hl 0 rfl) ?_
  refine lv_iconst (v := (2 : Int32)) hx hb dX6_describe_14 (by decide) ?_
  refine lv_iadd hx hb dX6_describe_15 ?_
  obtain ⟨o4, h5, hf⟩ := gw_bind hf
  refine gw_Vv (As := [.int x2, .int (o1.1 + (2 : Int32))]) (mc' := 0) (ms' := 0) F hW (mXX1_put4_1 h5) (cwV 2 hts (gT_V q_4_155 q_4_156 q_4_157 q_1_3 q_4_158) rfl rfl rfl hdX1_put4 ⟨Nat.le_of_ble_eq_true rfl, Nat.le_of_ble_eq_true rfl⟩) 1 1 (aX_1 K o1.2) rfl rfl hl.1 rfl (Nat.le_of_ble_eq_true rfl) dX6_describe_16 ⟨Nat.le_of_ble_eq_true rfl, Nat.le_of_ble_eq_true rfl⟩ rfl rfl (fun H locs hW => ?_)
  refine lv_aload_n hx hb dX6_describe_19 rfl (lv_at hl 2 rfl) ?_
  refine lv_iload_n hx hb dX6_describe_20 rfl (lv_at hl 3 rfl) ?_
  refine lv_iconst (v := (4 : Int32)) hx hb dX6_describe_21 (by decide) ?_
  refine lv_iadd hx hb dX6_describe_22 ?_
  refine lv_iload hx hb dX6_describe_23 (lv_at hl 0 rfl) ?_
  refine lv_iconst (v := (3 : Int32)) hx hb dX6_describe_25 (by decide) ?_
  refine lv_iadd hx hb dX6_describe_26 ?_
  obtain ⟨o7, h8, hf⟩ := gw_bind hf
  refine gw_Vv (As := [.int (x2 + (4 : Int32)), .int (o1.1 + (3 : Int32))]) (mc' := 0) (ms' := 0) F hW (mXX1_put4_1 h8) (cwV 2 hts (gT_V q_4_155 q_4_156 q_4_157 q_1_3 q_4_158) rfl rfl rfl hdX1_put4 ⟨Nat.le_of_ble_eq_true rfl, Nat.le_of_ble_eq_true rfl⟩) 1 1 (aX_1 K o4) rfl rfl hl.1 rfl (Nat.le_of_ble_eq_true rfl) dX6_describe_27 ⟨Nat.le_of_ble_eq_true rfl, Nat.le_of_ble_eq_true rfl⟩ rfl rfl (fun H locs hW => ?_)
  refine lv_aload_n hx hb dX6_describe_30 rfl (lv_at hl 2 rfl) ?_
  refine lv_iload_n hx hb dX6_describe_31 rfl (lv_at hl 3 rfl) ?_
  refine lv_bipush (v := (8 : Int32)) hx hb dX6_describe_32 (by decide) ?_
  refine lv_iadd hx hb dX6_describe_34 ?_
  refine lv_iload hx hb dX6_describe_35 (lv_at hl 0 rfl) ?_
  refine lv_iconst (v := (4 : Int32)) hx hb dX6_describe_37 (by decide) ?_
  refine lv_iadd hx hb dX6_describe_38 ?_
  obtain ⟨o10, h11, hf⟩ := gw_bind hf
  refine gw_Vv (As := [.int (x2 + (8 : Int32)), .int (o1.1 + (4 : Int32))]) (mc' := 0) (ms' := 0) F hW (mXX1_put4_1 h11) (cwV 2 hts (gT_V q_4_155 q_4_156 q_4_157 q_1_3 q_4_158) rfl rfl rfl hdX1_put4 ⟨Nat.le_of_ble_eq_true rfl, Nat.le_of_ble_eq_true rfl⟩) 1 1 (aX_1 K o7) rfl rfl hl.1 rfl (Nat.le_of_ble_eq_true rfl) dX6_describe_39 ⟨Nat.le_of_ble_eq_true rfl, Nat.le_of_ble_eq_true rfl⟩ rfl rfl (fun H locs hW => ?_)
  refine lv_aload_n hx hb dX6_describe_42 rfl (lv_at hl 2 rfl) ?_
  refine lv_iload_n hx hb dX6_describe_43 rfl (lv_at hl 3 rfl) ?_
  refine lv_bipush (v := (12 : Int32)) hx hb dX6_describe_44 (by decide) ?_
  refine lv_iadd hx hb dX6_describe_46 ?_
  refine lv_aload_n hx hb dX6_describe_47 rfl (lv_at hl 1 rfl) ?_
  refine gw_get (v := .ref (ka K 4)) F inc_X6 hW 9 6 1 (aX_9 K o10) rfl (by decide) (hG _ q_1_145) (fun _ h9 => h9) rfl dX6_describe_48 ?_
  refine lv_iload_n hx hb dX6_describe_51 rfl (lv_at hl 4 rfl) ?_
  obtain ⟨o13, h14, hf⟩ := gw_bind hf
  refine gw_Vi (As := [.int x3]) (mc' := 0) (ms' := 0) F hW (mXX3_freeIn_4 h14) (cwV 1 hts (gT_V q_4_140 q_4_141 q_4_142 q_1_5 q_4_143) rfl rfl rfl hdX3_freeIn ⟨Nat.le_of_ble_eq_true rfl, Nat.le_of_ble_eq_true rfl⟩) 4 3 (aX_4 K o10) rfl rfl hl.1 rfl (Nat.le_of_ble_eq_true rfl) dX6_describe_52 ⟨Nat.le_of_ble_eq_true rfl, Nat.le_of_ble_eq_true rfl⟩ rfl rfl (fun H locs hW => ?_)
  obtain ⟨o16, h17, hf⟩ := gw_bind hf
  refine gw_Vv (As := [.int (x2 + (12 : Int32)), .int o13.1]) (mc' := 0) (ms' := 0) F hW (mXX1_put2_1 h17) (cwV 2 hts (gT_V q_4_159 q_4_160 q_4_161 q_1_3 q_4_162) rfl rfl rfl hdX1_put2 ⟨Nat.le_of_ble_eq_true rfl, Nat.le_of_ble_eq_true rfl⟩) 1 1 (aX_1 K o13.2) rfl rfl hl.1 rfl (Nat.le_of_ble_eq_true rfl) dX6_describe_55 ⟨Nat.le_of_ble_eq_true rfl, Nat.le_of_ble_eq_true rfl⟩ rfl rfl (fun H locs hW => ?_)
  refine lv_aload_n hx hb dX6_describe_58 rfl (lv_at hl 2 rfl) ?_
  refine lv_iload_n hx hb dX6_describe_59 rfl (lv_at hl 3 rfl) ?_
  refine lv_bipush (v := (14 : Int32)) hx hb dX6_describe_60 (by decide) ?_
  refine lv_iadd hx hb dX6_describe_62 ?_
  refine lv_aload_n hx hb dX6_describe_63 rfl (lv_at hl 1 rfl) ?_
  refine gw_get (v := .ref (ka K 5)) F inc_X6 hW 9 6 2 (aX_9 K o16) rfl (by decide) (hG _ q_1_146) (fun _ h9 => h9) rfl dX6_describe_64 ?_
  refine lv_iload_n hx hb dX6_describe_67 rfl (lv_at hl 4 rfl) ?_
  obtain ⟨o19, h20, hf⟩ := gw_bind hf
  refine gw_Vi (As := [.int x3]) (mc' := 0) (ms' := 0) F hW (mXX3_freeIn_5 h20) (cwV 1 hts (gT_V q_4_140 q_4_141 q_4_142 q_1_5 q_4_143) rfl rfl rfl hdX3_freeIn ⟨Nat.le_of_ble_eq_true rfl, Nat.le_of_ble_eq_true rfl⟩) 5 3 (aX_5 K o16) rfl rfl hl.1 rfl (Nat.le_of_ble_eq_true rfl) dX6_describe_68 ⟨Nat.le_of_ble_eq_true rfl, Nat.le_of_ble_eq_true rfl⟩ rfl rfl (fun H locs hW => ?_)
  obtain ⟨o22, h23, hf⟩ := gw_bind hf
  refine gw_Vv (As := [.int (x2 + (14 : Int32)), .int o19.1]) (mc' := 0) (ms' := 0) F hW (mXX1_put2_1 h23) (cwV 2 hts (gT_V q_4_159 q_4_160 q_4_161 q_1_3 q_4_162) rfl rfl rfl hdX1_put2 ⟨Nat.le_of_ble_eq_true rfl, Nat.le_of_ble_eq_true rfl⟩) 1 1 (aX_1 K o19.2) rfl rfl hl.1 rfl (Nat.le_of_ble_eq_true rfl) dX6_describe_71 ⟨Nat.le_of_ble_eq_true rfl, Nat.le_of_ble_eq_true rfl⟩ rfl rfl (fun H locs hW => ?_)
  refine lv_aload_n hx hb dX6_describe_74 rfl (lv_at hl 2 rfl) ?_
  refine lv_iload_n hx hb dX6_describe_75 rfl (lv_at hl 3 rfl) ?_
  refine lv_bipush (v := (16 : Int32)) hx hb dX6_describe_76 (by decide) ?_
  refine lv_iadd hx hb dX6_describe_78 ?_
  refine lv_aload_n hx hb dX6_describe_79 rfl (lv_at hl 1 rfl) ?_
  refine gw_get (v := .ref (ka K 6)) F inc_X6 hW 9 6 3 (aX_9 K o22) rfl (by decide) (hG _ q_1_147) (fun _ h9 => h9) rfl dX6_describe_80 ?_
  refine lv_iload_n hx hb dX6_describe_83 rfl (lv_at hl 4 rfl) ?_
  obtain ⟨o25, h26, hf⟩ := gw_bind hf
  refine gw_Vi (As := [.int x3]) (mc' := 0) (ms' := 0) F hW (mXX4_directoriesIn_6 h26) (cwV 1 hts (gT_V q_4_163 q_4_164 q_4_165 q_1_6 q_4_166) rfl rfl rfl hdX4_directoriesIn ⟨Nat.le_of_ble_eq_true rfl, Nat.le_of_ble_eq_true rfl⟩) 6 4 (aX_6 K o22) rfl rfl hl.1 rfl (Nat.le_of_ble_eq_true rfl) dX6_describe_84 ⟨Nat.le_of_ble_eq_true rfl, Nat.le_of_ble_eq_true rfl⟩ rfl rfl (fun H locs hW => ?_)
  obtain ⟨o28, h29, hf⟩ := gw_bind hf
  refine gw_Vv (As := [.int (x2 + (16 : Int32)), .int o25.1]) (mc' := 0) (ms' := 0) F hW (mXX1_put2_1 h29) (cwV 2 hts (gT_V q_4_159 q_4_160 q_4_161 q_1_3 q_4_162) rfl rfl rfl hdX1_put2 ⟨Nat.le_of_ble_eq_true rfl, Nat.le_of_ble_eq_true rfl⟩) 1 1 (aX_1 K o25.2) rfl rfl hl.1 rfl (Nat.le_of_ble_eq_true rfl) dX6_describe_87 ⟨Nat.le_of_ble_eq_true rfl, Nat.le_of_ble_eq_true rfl⟩ rfl rfl (fun H locs hW => ?_)
  exact gw_retv F hW hf dX6_describe_90
set_option maxHeartbeats 4000000 in
set_option maxRecDepth 100000 in
theorem mXX6_describe_9_1 {l : Launch} {K : KX} {σ : XS} {x2 : Int32} {x3 : Int32} {o : XS} (hf : fXX6_describe_9_1 (kn K) x2 x3 σ = some o) : gw_Mv l (kD K) vwCl (tyX K) (wX K) yX6_describe wsX6_describe rXX6_describe_9_1 [.ref (ka K 9), .ref (ka K 1), .int x2, .int x3] σ o := by
  intro sz
  refine gw_body (cc := cX6_describe) (maxL := 5) (yret := none) (by decide +kernel) rfl ?_ (Nat.le_of_ble_eq_true rfl)
  intro p e s m below meth c F hsz hW ls hl
  exact wXX6_describe_9_1_0 F x2 x3 σ o hf s.heap [] ls hl hW
abbrev rXX6_sketch_9_1 : Room := { frames := 3, cells := 0, slots := 0, locals := 70 }
def PXX6_sketch_9_1_9 (p : Program) (l : Launch) (e : Env) (s : State) (m : MethodId) (args : Array Value) (below : List Frame) (meth : Method) (c : Code) (A : Nat → Prop) (K : KX) (t : (Int32 × Int32 × Int32 × Int32 × Int32 × XS)) (o : XS) : Prop := ∀ (H : Heap) (locs : List Loc) (ls : Array Slot), lv_has ls 7 [(0, .ref (ka K 9)), (1, .ref (ka K 1)), (2, .int t.1), (3, .int t.2.1), (4, .int t.2.2.1), (5, .int t.2.2.2.1), (6, .int t.2.2.2.2.1)] → gw_ (kD K) vwCl (tyX K) (wX K) A s t.2.2.2.2.2 H locs → W p l e rXX6_sketch_9_1 s m args below meth c H locs 0 0 (MQ below (gw_Qv (kD K) vwCl (tyX K) (wX K) A o) args s rXX6_sketch_9_1.cells rXX6_sketch_9_1.slots A) (F0 m 9 ls [])
set_option maxHeartbeats 4000000 in
set_option maxRecDepth 100000 in
theorem wXX6_sketch_9_1_9 {p : Program} {l : Launch} {e : Env} {s : State} {m : MethodId} {args : Array Value} {below : List Frame} {meth : Method} {c : Code} {A : Nat → Prop} {K : KX} (F : fx_ p s m args meth c cX6_sketch 7 none RX6 wsX6_sketch) {k9 : (Int32 × Int32 × Int32 × Int32 × Int32 × XS) → Option XS} (hk9 : ∀ t o, k9 t = some o → PXX6_sketch_9_1_9 p l e s m args below meth c A K t o) (x2 : Int32) (x3 : Int32) (x4 : Int32) (x5 : Int32) (x6 : Int32) (σ : XS) (o : XS) (hf : fXX6_sketch_9_1_9 (kn K) k9 x2 x3 x4 x5 x6 σ = some o) (H : Heap) (locs : List Loc) (ls : Array Slot) (hl : lv_has ls 7 [(0, .ref (ka K 9)), (1, .ref (ka K 1)), (2, .int x2), (3, .int x3), (4, .int x4), (5, .int x5), (6, .int x6)]) (hW : gw_ (kD K) vwCl (tyX K) (wX K) A s σ H locs) : W p l e rXX6_sketch_9_1 s m args below meth c H locs 0 0 (MQ below (gw_Qv (kD K) vwCl (tyX K) (wX K) A o) args s rXX6_sketch_9_1.cells rXX6_sketch_9_1.slots A) (F0 m 9 ls []) := by
  have hx := F.1
  have hb := F.2.1
  have hml := F.2.2.2.1
  have hown := F.2.2.2.2.1
  have hts := F.2.2.2.2.2.1
  have hG : ∀ x ∈ gT, x.before args s = true := fun x h => hts x (List.mem_cons_of_mem _ h)
  unfold fXX6_sketch_9_1_9 at hf
  refine lv_iload hx hb dX6_sketch_9 (lv_at hl 6 rfl) ?_
  refine lv_aload_n hx hb dX6_sketch_11 rfl (lv_at hl 0 rfl) ?_
  refine gw_get (v := .ref (ka K 3)) F inc_X6 hW 9 6 0 (aX_9 K σ) rfl (by decide) (hG _ q_1_144) (fun _ h9 => h9) rfl dX6_sketch_12 ?_
  obtain ⟨o1, h2, hf⟩ := gw_bind hf
  refine gw_Vi (As := []) (mc' := 0) (ms' := 0) F hW (mXX2_groups_3 h2) (cwV 0 hts (gT_V q_4_139 q_2_74 q_2_75 q_1_4 q_2_76) rfl rfl rfl hdX2_groups ⟨Nat.le_of_ble_eq_true rfl, Nat.le_of_ble_eq_true rfl⟩) 3 2 (aX_3 K σ) rfl rfl hl.1 rfl (Nat.le_of_ble_eq_true rfl) dX6_sketch_15 ⟨Nat.le_of_ble_eq_true rfl, Nat.le_of_ble_eq_true rfl⟩ rfl rfl (fun H locs hW => ?_)
  refine lv_icmp_ge (tgt := 73) hx hb dX6_sketch_18 (by decide) (fun c4 => ?_) (fun c4 => ?_)
  · replace hf := (if_pos c4).symm.trans hf
    refine lv_aload_n hx hb dX6_sketch_73 rfl (lv_at hl 1 rfl) ?_
    refine lv_iload_n hx hb dX6_sketch_74 rfl (lv_at hl 2 rfl) ?_
    refine lv_aload_n hx hb dX6_sketch_75 rfl (lv_at hl 0 rfl) ?_
    refine gw_get (v := .ref (ka K 3)) F inc_X6 hW 9 6 0 (aX_9 K o1.2) rfl (by decide) (hG _ q_1_144) (fun _ h9 => h9) rfl dX6_sketch_76 ?_
    obtain ⟨o5, h6, hf⟩ := gw_bind hf
    refine gw_Vi (As := []) (mc' := 0) (ms' := 0) F hW (mXX2_inodes_3 h6) (cwV 0 hts (gT_V q_4_169 q_2_97 q_2_98 q_1_4 q_2_99) rfl rfl rfl hdX2_inodes ⟨Nat.le_of_ble_eq_true rfl, Nat.le_of_ble_eq_true rfl⟩) 3 2 (aX_3 K o1.2) rfl rfl hl.1 rfl (Nat.le_of_ble_eq_true rfl) dX6_sketch_79 ⟨Nat.le_of_ble_eq_true rfl, Nat.le_of_ble_eq_true rfl⟩ rfl rfl (fun H locs hW => ?_)
    obtain ⟨o8, h9, hf⟩ := gw_bind hf
    refine gw_Vv (As := [.int x2, .int o5.1]) (mc' := 0) (ms' := 0) F hW (mXX1_put4_1 h9) (cwV 2 hts (gT_V q_4_155 q_4_156 q_4_157 q_1_3 q_4_158) rfl rfl rfl hdX1_put4 ⟨Nat.le_of_ble_eq_true rfl, Nat.le_of_ble_eq_true rfl⟩) 1 1 (aX_1 K o5.2) rfl rfl hl.1 rfl (Nat.le_of_ble_eq_true rfl) dX6_sketch_82 ⟨Nat.le_of_ble_eq_true rfl, Nat.le_of_ble_eq_true rfl⟩ rfl rfl (fun H locs hW => ?_)
    refine lv_aload_n hx hb dX6_sketch_85 rfl (lv_at hl 1 rfl) ?_
    refine lv_iload_n hx hb dX6_sketch_86 rfl (lv_at hl 2 rfl) ?_
    refine lv_iconst (v := (4 : Int32)) hx hb dX6_sketch_87 (by decide) ?_
    refine lv_iadd hx hb dX6_sketch_88 ?_
    refine lv_aload_n hx hb dX6_sketch_89 rfl (lv_at hl 0 rfl) ?_
    refine gw_get (v := .ref (ka K 3)) F inc_X6 hW 9 6 0 (aX_9 K o8) rfl (by decide) (hG _ q_1_144) (fun _ h9 => h9) rfl dX6_sketch_90 ?_
    obtain ⟨o11, h12, hf⟩ := gw_bind hf
    refine gw_Vi (As := []) (mc' := 0) (ms' := 0) F hW (mXX2_blocks_3 h12) (cwV 0 hts (gT_V q_4_170 q_1_166 q_1_167 q_1_4 q_1_168) rfl rfl rfl hdX2_blocks ⟨Nat.le_of_ble_eq_true rfl, Nat.le_of_ble_eq_true rfl⟩) 3 2 (aX_3 K o8) rfl rfl hl.1 rfl (Nat.le_of_ble_eq_true rfl) dX6_sketch_93 ⟨Nat.le_of_ble_eq_true rfl, Nat.le_of_ble_eq_true rfl⟩ rfl rfl (fun H locs hW => ?_)
    obtain ⟨o14, h15, hf⟩ := gw_bind hf
    refine gw_Vv (As := [.int (x2 + (4 : Int32)), .int o11.1]) (mc' := 0) (ms' := 0) F hW (mXX1_put4_1 h15) (cwV 2 hts (gT_V q_4_155 q_4_156 q_4_157 q_1_3 q_4_158) rfl rfl rfl hdX1_put4 ⟨Nat.le_of_ble_eq_true rfl, Nat.le_of_ble_eq_true rfl⟩) 1 1 (aX_1 K o11.2) rfl rfl hl.1 rfl (Nat.le_of_ble_eq_true rfl) dX6_sketch_96 ⟨Nat.le_of_ble_eq_true rfl, Nat.le_of_ble_eq_true rfl⟩ rfl rfl (fun H locs hW => ?_)
    refine lv_aload_n hx hb dX6_sketch_99 rfl (lv_at hl 1 rfl) ?_
    refine lv_iload_n hx hb dX6_sketch_100 rfl (lv_at hl 2 rfl) ?_
    refine lv_bipush (v := (12 : Int32)) hx hb dX6_sketch_101 (by decide) ?_
    refine lv_iadd hx hb dX6_sketch_103 ?_
    refine lv_iload hx hb dX6_sketch_104 (lv_at hl 4 rfl) ?_
    obtain ⟨o17, h18, hf⟩ := gw_bind hf
    refine gw_Vv (As := [.int (x2 + (12 : Int32)), .int x4]) (mc' := 0) (ms' := 0) F hW (mXX1_put4_1 h18) (cwV 2 hts (gT_V q_4_155 q_4_156 q_4_157 q_1_3 q_4_158) rfl rfl rfl hdX1_put4 ⟨Nat.le_of_ble_eq_true rfl, Nat.le_of_ble_eq_true rfl⟩) 1 1 (aX_1 K o14) rfl rfl hl.1 rfl (Nat.le_of_ble_eq_true rfl) dX6_sketch_106 ⟨Nat.le_of_ble_eq_true rfl, Nat.le_of_ble_eq_true rfl⟩ rfl rfl (fun H locs hW => ?_)
    refine lv_aload_n hx hb dX6_sketch_109 rfl (lv_at hl 1 rfl) ?_
    refine lv_iload_n hx hb dX6_sketch_110 rfl (lv_at hl 2 rfl) ?_
    refine lv_bipush (v := (16 : Int32)) hx hb dX6_sketch_111 (by decide) ?_
    refine lv_iadd hx hb dX6_sketch_113 ?_
    refine lv_iload hx hb dX6_sketch_114 (lv_at hl 5 rfl) ?_
    obtain ⟨o20, h21, hf⟩ := gw_bind hf
    refine gw_Vv (As := [.int (x2 + (16 : Int32)), .int x5]) (mc' := 0) (ms' := 0) F hW (mXX1_put4_1 h21) (cwV 2 hts (gT_V q_4_155 q_4_156 q_4_157 q_1_3 q_4_158) rfl rfl rfl hdX1_put4 ⟨Nat.le_of_ble_eq_true rfl, Nat.le_of_ble_eq_true rfl⟩) 1 1 (aX_1 K o17) rfl rfl hl.1 rfl (Nat.le_of_ble_eq_true rfl) dX6_sketch_116 ⟨Nat.le_of_ble_eq_true rfl, Nat.le_of_ble_eq_true rfl⟩ rfl rfl (fun H locs hW => ?_)
    refine lv_aload_n hx hb dX6_sketch_119 rfl (lv_at hl 1 rfl) ?_
    refine lv_iload_n hx hb dX6_sketch_120 rfl (lv_at hl 2 rfl) ?_
    refine lv_bipush (v := (20 : Int32)) hx hb dX6_sketch_121 (by decide) ?_
    refine lv_iadd hx hb dX6_sketch_123 ?_
    refine lv_iconst (v := (1 : Int32)) hx hb dX6_sketch_124 (by decide) ?_
    obtain ⟨o23, h24, hf⟩ := gw_bind hf
    refine gw_Vv (As := [.int (x2 + (20 : Int32)), .int (1 : Int32)]) (mc' := 0) (ms' := 0) F hW (mXX1_put4_1 h24) (cwV 2 hts (gT_V q_4_155 q_4_156 q_4_157 q_1_3 q_4_158) rfl rfl rfl hdX1_put4 ⟨Nat.le_of_ble_eq_true rfl, Nat.le_of_ble_eq_true rfl⟩) 1 1 (aX_1 K o20) rfl rfl hl.1 rfl (Nat.le_of_ble_eq_true rfl) dX6_sketch_125 ⟨Nat.le_of_ble_eq_true rfl, Nat.le_of_ble_eq_true rfl⟩ rfl rfl (fun H locs hW => ?_)
    refine lv_aload_n hx hb dX6_sketch_128 rfl (lv_at hl 1 rfl) ?_
    refine lv_iload_n hx hb dX6_sketch_129 rfl (lv_at hl 2 rfl) ?_
    refine lv_bipush (v := (32 : Int32)) hx hb dX6_sketch_130 (by decide) ?_
    refine lv_iadd hx hb dX6_sketch_132 ?_
    refine lv_aload_n hx hb dX6_sketch_133 rfl (lv_at hl 0 rfl) ?_
    refine gw_get (v := .ref (ka K 3)) F inc_X6 hW 9 6 0 (aX_9 K o23) rfl (by decide) (hG _ q_1_144) (fun _ h9 => h9) rfl dX6_sketch_134 ?_
    obtain ⟨o26, h27, hf⟩ := gw_bind hf
    refine gw_Vi (As := []) (mc' := 0) (ms' := 0) F hW (mXX2_groupBlocks_3 h27) (cwV 0 hts (gT_V q_4_171 q_4_172 q_4_173 q_1_4 q_4_174) rfl rfl rfl hdX2_groupBlocks ⟨Nat.le_of_ble_eq_true rfl, Nat.le_of_ble_eq_true rfl⟩) 3 2 (aX_3 K o23) rfl rfl hl.1 rfl (Nat.le_of_ble_eq_true rfl) dX6_sketch_137 ⟨Nat.le_of_ble_eq_true rfl, Nat.le_of_ble_eq_true rfl⟩ rfl rfl (fun H locs hW => ?_)
    obtain ⟨o29, h30, hf⟩ := gw_bind hf
    refine gw_Vv (As := [.int (x2 + (32 : Int32)), .int o26.1]) (mc' := 0) (ms' := 0) F hW (mXX1_put4_1 h30) (cwV 2 hts (gT_V q_4_155 q_4_156 q_4_157 q_1_3 q_4_158) rfl rfl rfl hdX1_put4 ⟨Nat.le_of_ble_eq_true rfl, Nat.le_of_ble_eq_true rfl⟩) 1 1 (aX_1 K o26.2) rfl rfl hl.1 rfl (Nat.le_of_ble_eq_true rfl) dX6_sketch_140 ⟨Nat.le_of_ble_eq_true rfl, Nat.le_of_ble_eq_true rfl⟩ rfl rfl (fun H locs hW => ?_)
    refine lv_aload_n hx hb dX6_sketch_143 rfl (lv_at hl 1 rfl) ?_
    refine lv_iload_n hx hb dX6_sketch_144 rfl (lv_at hl 2 rfl) ?_
    refine lv_bipush (v := (36 : Int32)) hx hb dX6_sketch_145 (by decide) ?_
    refine lv_iadd hx hb dX6_sketch_147 ?_
    refine lv_aload_n hx hb dX6_sketch_148 rfl (lv_at hl 0 rfl) ?_
    refine gw_get (v := .ref (ka K 3)) F inc_X6 hW 9 6 0 (aX_9 K o29) rfl (by decide) (hG _ q_1_144) (fun _ h9 => h9) rfl dX6_sketch_149 ?_
    obtain ⟨o32, h33, hf⟩ := gw_bind hf
    refine gw_Vi (As := []) (mc' := 0) (ms' := 0) F hW (mXX2_groupBlocks_3 h33) (cwV 0 hts (gT_V q_4_171 q_4_172 q_4_173 q_1_4 q_4_174) rfl rfl rfl hdX2_groupBlocks ⟨Nat.le_of_ble_eq_true rfl, Nat.le_of_ble_eq_true rfl⟩) 3 2 (aX_3 K o29) rfl rfl hl.1 rfl (Nat.le_of_ble_eq_true rfl) dX6_sketch_152 ⟨Nat.le_of_ble_eq_true rfl, Nat.le_of_ble_eq_true rfl⟩ rfl rfl (fun H locs hW => ?_)
    obtain ⟨o35, h36, hf⟩ := gw_bind hf
    refine gw_Vv (As := [.int (x2 + (36 : Int32)), .int o32.1]) (mc' := 0) (ms' := 0) F hW (mXX1_put4_1 h36) (cwV 2 hts (gT_V q_4_155 q_4_156 q_4_157 q_1_3 q_4_158) rfl rfl rfl hdX1_put4 ⟨Nat.le_of_ble_eq_true rfl, Nat.le_of_ble_eq_true rfl⟩) 1 1 (aX_1 K o32.2) rfl rfl hl.1 rfl (Nat.le_of_ble_eq_true rfl) dX6_sketch_155 ⟨Nat.le_of_ble_eq_true rfl, Nat.le_of_ble_eq_true rfl⟩ rfl rfl (fun H locs hW => ?_)
    refine lv_aload_n hx hb dX6_sketch_158 rfl (lv_at hl 1 rfl) ?_
    refine lv_iload_n hx hb dX6_sketch_159 rfl (lv_at hl 2 rfl) ?_
    refine lv_bipush (v := (40 : Int32)) hx hb dX6_sketch_160 (by decide) ?_
    refine lv_iadd hx hb dX6_sketch_162 ?_
    refine lv_aload_n hx hb dX6_sketch_163 rfl (lv_at hl 0 rfl) ?_
    refine gw_get (v := .ref (ka K 3)) F inc_X6 hW 9 6 0 (aX_9 K o35) rfl (by decide) (hG _ q_1_144) (fun _ h9 => h9) rfl dX6_sketch_164 ?_
    obtain ⟨o38, h39, hf⟩ := gw_bind hf
    refine gw_Vi (As := []) (mc' := 0) (ms' := 0) F hW (mXX2_groupInodes_3 h39) (cwV 0 hts (gT_V q_4_175 q_3_34 q_3_35 q_1_4 q_3_36) rfl rfl rfl hdX2_groupInodes ⟨Nat.le_of_ble_eq_true rfl, Nat.le_of_ble_eq_true rfl⟩) 3 2 (aX_3 K o35) rfl rfl hl.1 rfl (Nat.le_of_ble_eq_true rfl) dX6_sketch_167 ⟨Nat.le_of_ble_eq_true rfl, Nat.le_of_ble_eq_true rfl⟩ rfl rfl (fun H locs hW => ?_)
    obtain ⟨o41, h42, hf⟩ := gw_bind hf
    refine gw_Vv (As := [.int (x2 + (40 : Int32)), .int o38.1]) (mc' := 0) (ms' := 0) F hW (mXX1_put4_1 h42) (cwV 2 hts (gT_V q_4_155 q_4_156 q_4_157 q_1_3 q_4_158) rfl rfl rfl hdX1_put4 ⟨Nat.le_of_ble_eq_true rfl, Nat.le_of_ble_eq_true rfl⟩) 1 1 (aX_1 K o38.2) rfl rfl hl.1 rfl (Nat.le_of_ble_eq_true rfl) dX6_sketch_170 ⟨Nat.le_of_ble_eq_true rfl, Nat.le_of_ble_eq_true rfl⟩ rfl rfl (fun H locs hW => ?_)
    refine lv_aload_n hx hb dX6_sketch_173 rfl (lv_at hl 1 rfl) ?_
    refine lv_iload_n hx hb dX6_sketch_174 rfl (lv_at hl 2 rfl) ?_
    refine lv_bipush (v := (54 : Int32)) hx hb dX6_sketch_175 (by decide) ?_
    refine lv_iadd hx hb dX6_sketch_177 ?_
    refine lv_ldc (own := RX6) (v := (65535 : Int32)) hx hb hown (hts _ (List.mem_cons_of_mem _ q_4_176)) dX6_sketch_178 ?_
    obtain ⟨o44, h45, hf⟩ := gw_bind hf
    refine gw_Vv (As := [.int (x2 + (54 : Int32)), .int (65535 : Int32)]) (mc' := 0) (ms' := 0) F hW (mXX1_put2_1 h45) (cwV 2 hts (gT_V q_4_159 q_4_160 q_4_161 q_1_3 q_4_162) rfl rfl rfl hdX1_put2 ⟨Nat.le_of_ble_eq_true rfl, Nat.le_of_ble_eq_true rfl⟩) 1 1 (aX_1 K o41) rfl rfl hl.1 rfl (Nat.le_of_ble_eq_true rfl) dX6_sketch_180 ⟨Nat.le_of_ble_eq_true rfl, Nat.le_of_ble_eq_true rfl⟩ rfl rfl (fun H locs hW => ?_)
    refine lv_aload_n hx hb dX6_sketch_183 rfl (lv_at hl 1 rfl) ?_
    refine lv_iload_n hx hb dX6_sketch_184 rfl (lv_at hl 2 rfl) ?_
    refine lv_bipush (v := (56 : Int32)) hx hb dX6_sketch_185 (by decide) ?_
    refine lv_iadd hx hb dX6_sketch_187 ?_
    refine lv_ldc (own := RX6) (v := (61267 : Int32)) hx hb hown (hts _ (List.mem_cons_of_mem _ q_4_177)) dX6_sketch_188 ?_
    obtain ⟨o47, h48, hf⟩ := gw_bind hf
    refine gw_Vv (As := [.int (x2 + (56 : Int32)), .int (61267 : Int32)]) (mc' := 0) (ms' := 0) F hW (mXX1_put2_1 h48) (cwV 2 hts (gT_V q_4_159 q_4_160 q_4_161 q_1_3 q_4_162) rfl rfl rfl hdX1_put2 ⟨Nat.le_of_ble_eq_true rfl, Nat.le_of_ble_eq_true rfl⟩) 1 1 (aX_1 K o44) rfl rfl hl.1 rfl (Nat.le_of_ble_eq_true rfl) dX6_sketch_190 ⟨Nat.le_of_ble_eq_true rfl, Nat.le_of_ble_eq_true rfl⟩ rfl rfl (fun H locs hW => ?_)
    refine lv_aload_n hx hb dX6_sketch_193 rfl (lv_at hl 1 rfl) ?_
    refine lv_iload_n hx hb dX6_sketch_194 rfl (lv_at hl 2 rfl) ?_
    refine lv_bipush (v := (58 : Int32)) hx hb dX6_sketch_195 (by decide) ?_
    refine lv_iadd hx hb dX6_sketch_197 ?_
    refine lv_iconst (v := (1 : Int32)) hx hb dX6_sketch_198 (by decide) ?_
    obtain ⟨o50, h51, hf⟩ := gw_bind hf
    refine gw_Vv (As := [.int (x2 + (58 : Int32)), .int (1 : Int32)]) (mc' := 0) (ms' := 0) F hW (mXX1_put2_1 h51) (cwV 2 hts (gT_V q_4_159 q_4_160 q_4_161 q_1_3 q_4_162) rfl rfl rfl hdX1_put2 ⟨Nat.le_of_ble_eq_true rfl, Nat.le_of_ble_eq_true rfl⟩) 1 1 (aX_1 K o47) rfl rfl hl.1 rfl (Nat.le_of_ble_eq_true rfl) dX6_sketch_199 ⟨Nat.le_of_ble_eq_true rfl, Nat.le_of_ble_eq_true rfl⟩ rfl rfl (fun H locs hW => ?_)
    refine lv_aload_n hx hb dX6_sketch_202 rfl (lv_at hl 1 rfl) ?_
    refine lv_iload_n hx hb dX6_sketch_203 rfl (lv_at hl 2 rfl) ?_
    refine lv_bipush (v := (60 : Int32)) hx hb dX6_sketch_204 (by decide) ?_
    refine lv_iadd hx hb dX6_sketch_206 ?_
    refine lv_iconst (v := (1 : Int32)) hx hb dX6_sketch_207 (by decide) ?_
    obtain ⟨o53, h54, hf⟩ := gw_bind hf
    refine gw_Vv (As := [.int (x2 + (60 : Int32)), .int (1 : Int32)]) (mc' := 0) (ms' := 0) F hW (mXX1_put2_1 h54) (cwV 2 hts (gT_V q_4_159 q_4_160 q_4_161 q_1_3 q_4_162) rfl rfl rfl hdX1_put2 ⟨Nat.le_of_ble_eq_true rfl, Nat.le_of_ble_eq_true rfl⟩) 1 1 (aX_1 K o50) rfl rfl hl.1 rfl (Nat.le_of_ble_eq_true rfl) dX6_sketch_208 ⟨Nat.le_of_ble_eq_true rfl, Nat.le_of_ble_eq_true rfl⟩ rfl rfl (fun H locs hW => ?_)
    refine lv_aload_n hx hb dX6_sketch_211 rfl (lv_at hl 1 rfl) ?_
    refine lv_iload_n hx hb dX6_sketch_212 rfl (lv_at hl 2 rfl) ?_
    refine lv_bipush (v := (76 : Int32)) hx hb dX6_sketch_213 (by decide) ?_
    refine lv_iadd hx hb dX6_sketch_215 ?_
    refine lv_iconst (v := (1 : Int32)) hx hb dX6_sketch_216 (by decide) ?_
    obtain ⟨o56, h57, hf⟩ := gw_bind hf
    refine gw_Vv (As := [.int (x2 + (76 : Int32)), .int (1 : Int32)]) (mc' := 0) (ms' := 0) F hW (mXX1_put4_1 h57) (cwV 2 hts (gT_V q_4_155 q_4_156 q_4_157 q_1_3 q_4_158) rfl rfl rfl hdX1_put4 ⟨Nat.le_of_ble_eq_true rfl, Nat.le_of_ble_eq_true rfl⟩) 1 1 (aX_1 K o53) rfl rfl hl.1 rfl (Nat.le_of_ble_eq_true rfl) dX6_sketch_217 ⟨Nat.le_of_ble_eq_true rfl, Nat.le_of_ble_eq_true rfl⟩ rfl rfl (fun H locs hW => ?_)
    refine lv_aload_n hx hb dX6_sketch_220 rfl (lv_at hl 1 rfl) ?_
    refine lv_iload_n hx hb dX6_sketch_221 rfl (lv_at hl 2 rfl) ?_
    refine lv_bipush (v := (84 : Int32)) hx hb dX6_sketch_222 (by decide) ?_
    refine lv_iadd hx hb dX6_sketch_224 ?_
    refine lv_bipush (v := (11 : Int32)) hx hb dX6_sketch_225 (by decide) ?_
    obtain ⟨o59, h60, hf⟩ := gw_bind hf
    refine gw_Vv (As := [.int (x2 + (84 : Int32)), .int (11 : Int32)]) (mc' := 0) (ms' := 0) F hW (mXX1_put4_1 h60) (cwV 2 hts (gT_V q_4_155 q_4_156 q_4_157 q_1_3 q_4_158) rfl rfl rfl hdX1_put4 ⟨Nat.le_of_ble_eq_true rfl, Nat.le_of_ble_eq_true rfl⟩) 1 1 (aX_1 K o56) rfl rfl hl.1 rfl (Nat.le_of_ble_eq_true rfl) dX6_sketch_227 ⟨Nat.le_of_ble_eq_true rfl, Nat.le_of_ble_eq_true rfl⟩ rfl rfl (fun H locs hW => ?_)
    refine lv_aload_n hx hb dX6_sketch_230 rfl (lv_at hl 1 rfl) ?_
    refine lv_iload_n hx hb dX6_sketch_231 rfl (lv_at hl 2 rfl) ?_
    refine lv_bipush (v := (88 : Int32)) hx hb dX6_sketch_232 (by decide) ?_
    refine lv_iadd hx hb dX6_sketch_234 ?_
    refine lv_sipush (v := (128 : Int32)) hx hb dX6_sketch_235 (by decide) ?_
    obtain ⟨o62, h63, hf⟩ := gw_bind hf
    refine gw_Vv (As := [.int (x2 + (88 : Int32)), .int (128 : Int32)]) (mc' := 0) (ms' := 0) F hW (mXX1_put2_1 h63) (cwV 2 hts (gT_V q_4_159 q_4_160 q_4_161 q_1_3 q_4_162) rfl rfl rfl hdX1_put2 ⟨Nat.le_of_ble_eq_true rfl, Nat.le_of_ble_eq_true rfl⟩) 1 1 (aX_1 K o59) rfl rfl hl.1 rfl (Nat.le_of_ble_eq_true rfl) dX6_sketch_238 ⟨Nat.le_of_ble_eq_true rfl, Nat.le_of_ble_eq_true rfl⟩ rfl rfl (fun H locs hW => ?_)
    refine lv_aload_n hx hb dX6_sketch_241 rfl (lv_at hl 1 rfl) ?_
    refine lv_iload_n hx hb dX6_sketch_242 rfl (lv_at hl 2 rfl) ?_
    refine lv_bipush (v := (96 : Int32)) hx hb dX6_sketch_243 (by decide) ?_
    refine lv_iadd hx hb dX6_sketch_245 ?_
    refine lv_iconst (v := (2 : Int32)) hx hb dX6_sketch_246 (by decide) ?_
    obtain ⟨o65, h66, hf⟩ := gw_bind hf
    refine gw_Vv (As := [.int (x2 + (96 : Int32)), .int (2 : Int32)]) (mc' := 0) (ms' := 0) F hW (mXX1_put4_1 h66) (cwV 2 hts (gT_V q_4_155 q_4_156 q_4_157 q_1_3 q_4_158) rfl rfl rfl hdX1_put4 ⟨Nat.le_of_ble_eq_true rfl, Nat.le_of_ble_eq_true rfl⟩) 1 1 (aX_1 K o62) rfl rfl hl.1 rfl (Nat.le_of_ble_eq_true rfl) dX6_sketch_247 ⟨Nat.le_of_ble_eq_true rfl, Nat.le_of_ble_eq_true rfl⟩ rfl rfl (fun H locs hW => ?_)
    refine lv_aload_n hx hb dX6_sketch_250 rfl (lv_at hl 1 rfl) ?_
    refine lv_iload_n hx hb dX6_sketch_251 rfl (lv_at hl 2 rfl) ?_
    refine lv_bipush (v := (104 : Int32)) hx hb dX6_sketch_252 (by decide) ?_
    refine lv_iadd hx hb dX6_sketch_254 ?_
    refine lv_iload_n hx hb dX6_sketch_255 rfl (lv_at hl 3 rfl) ?_
    obtain ⟨o68, h69, hf⟩ := gw_bind hf
    refine gw_Vv (As := [.int (x2 + (104 : Int32)), .int x3]) (mc' := 0) (ms' := 0) F hW (mXX1_put4_1 h69) (cwV 2 hts (gT_V q_4_155 q_4_156 q_4_157 q_1_3 q_4_158) rfl rfl rfl hdX1_put4 ⟨Nat.le_of_ble_eq_true rfl, Nat.le_of_ble_eq_true rfl⟩) 1 1 (aX_1 K o65) rfl rfl hl.1 rfl (Nat.le_of_ble_eq_true rfl) dX6_sketch_256 ⟨Nat.le_of_ble_eq_true rfl, Nat.le_of_ble_eq_true rfl⟩ rfl rfl (fun H locs hW => ?_)
    exact gw_retv F hW hf dX6_sketch_259
  · replace hf := (if_neg c4).symm.trans hf
    refine lv_iload hx hb dX6_sketch_21 (lv_at hl 4 rfl) ?_
    refine lv_aload_n hx hb dX6_sketch_23 rfl (lv_at hl 0 rfl) ?_
    refine gw_get (v := .ref (ka K 4)) F inc_X6 hW 9 6 1 (aX_9 K o1.2) rfl (by decide) (hG _ q_1_145) (fun _ h9 => h9) rfl dX6_sketch_24 ?_
    refine lv_iload hx hb dX6_sketch_27 (lv_at hl 6 rfl) ?_
    obtain ⟨o71, h72, hf⟩ := gw_bind hf
    refine gw_Vi (As := [.int x6]) (mc' := 0) (ms' := 0) F hW (mXX3_freeIn_4 h72) (cwV 1 hts (gT_V q_4_140 q_4_141 q_4_142 q_1_5 q_4_143) rfl rfl rfl hdX3_freeIn ⟨Nat.le_of_ble_eq_true rfl, Nat.le_of_ble_eq_true rfl⟩) 4 3 (aX_4 K o1.2) rfl rfl hl.1 rfl (Nat.le_of_ble_eq_true rfl) dX6_sketch_29 ⟨Nat.le_of_ble_eq_true rfl, Nat.le_of_ble_eq_true rfl⟩ rfl rfl (fun H locs hW => ?_)
    refine lv_iadd hx hb dX6_sketch_32 ?_
    refine lv_istore (lv' := [(4, .int (x4 + o71.1)), (0, .ref (ka K 9)), (1, .ref (ka K 1)), (2, .int x2), (3, .int x3), (5, .int x5), (6, .int x6)]) hx hb dX6_sketch_33 hl (by decide) rfl (fun ls hl => ?_)
    refine lv_iload hx hb dX6_sketch_35 (lv_at hl 5 rfl) ?_
    refine lv_aload_n hx hb dX6_sketch_37 rfl (lv_at hl 1 rfl) ?_
    refine gw_get (v := .ref (ka K 5)) F inc_X6 hW 9 6 2 (aX_9 K o71.2) rfl (by decide) (hG _ q_1_146) (fun _ h9 => h9) rfl dX6_sketch_38 ?_
    refine lv_iload hx hb dX6_sketch_41 (lv_at hl 6 rfl) ?_
    obtain ⟨o74, h75, hf⟩ := gw_bind hf
    refine gw_Vi (As := [.int x6]) (mc' := 0) (ms' := 0) F hW (mXX3_freeIn_5 h75) (cwV 1 hts (gT_V q_4_140 q_4_141 q_4_142 q_1_5 q_4_143) rfl rfl rfl hdX3_freeIn ⟨Nat.le_of_ble_eq_true rfl, Nat.le_of_ble_eq_true rfl⟩) 5 3 (aX_5 K o71.2) rfl rfl hl.1 rfl (Nat.le_of_ble_eq_true rfl) dX6_sketch_43 ⟨Nat.le_of_ble_eq_true rfl, Nat.le_of_ble_eq_true rfl⟩ rfl rfl (fun H locs hW => ?_)
    refine lv_iadd hx hb dX6_sketch_46 ?_
    refine lv_istore (lv' := [(5, .int (x5 + o74.1)), (4, .int (x4 + o71.1)), (0, .ref (ka K 9)), (1, .ref (ka K 1)), (2, .int x2), (3, .int x3), (6, .int x6)]) hx hb dX6_sketch_47 hl (by decide) rfl (fun ls hl => ?_)
    refine lv_aload_n hx hb dX6_sketch_49 rfl (lv_at hl 2 rfl) ?_
    refine lv_aload_n hx hb dX6_sketch_50 rfl (lv_at hl 3 rfl) ?_
    refine lv_iload_n hx hb dX6_sketch_51 rfl (lv_at hl 4 rfl) ?_
    refine lv_sipush (v := (1024 : Int32)) hx hb dX6_sketch_52 (by decide) ?_
    refine lv_iadd hx hb dX6_sketch_55 ?_
    refine lv_bipush (v := (32 : Int32)) hx hb dX6_sketch_56 (by decide) ?_
    refine lv_iload hx hb dX6_sketch_58 (lv_at hl 6 rfl) ?_
    refine lv_imul hx hb dX6_sketch_60 ?_
    refine lv_iadd hx hb dX6_sketch_61 ?_
    refine lv_iload hx hb dX6_sketch_62 (lv_at hl 6 rfl) ?_
    obtain ⟨o77, h78, hf⟩ := gw_bind hf
    refine gw_Vv (As := [.ref (ka K 1), .int ((x2 + (1024 : Int32)) + ((32 : Int32) * x6)), .int x6]) (mc' := 0) (ms' := 0) F hW (mXX6_describe_9_1 h78) (cwV 3 hts (gT_V q_4_150 q_4_152 qp_22 q_1_8 q_4_153) rfl rfl rfl hdX6_describe ⟨Nat.le_of_ble_eq_true rfl, Nat.le_of_ble_eq_true rfl⟩) 9 6 (aX_9 K o74.2) rfl rfl hl.1 rfl (Nat.le_of_ble_eq_true rfl) dX6_sketch_64 ⟨Nat.le_of_ble_eq_true rfl, Nat.le_of_ble_eq_true rfl⟩ rfl rfl (fun H locs hW => ?_)
    refine lv_iinc (v := (x6 + (1 : Int32))) (lv' := [(6, .int (x6 + (1 : Int32))), (5, .int (x5 + o74.1)), (4, .int (x4 + o71.1)), (0, .ref (ka K 9)), (1, .ref (ka K 1)), (2, .int x2), (3, .int x3)]) hx hb dX6_sketch_67 hl (k := 6) rfl rfl (by decide) rfl (fun ls hl => ?_)
    refine lv_goto (tgt := 9) hx hb dX6_sketch_70 (by decide) ?_
    exact hk9 _ _ hf _ _ _ (lv_sub hl [3, 4, 5, 6, 2, 1, 0] rfl) hW
set_option maxHeartbeats 4000000 in
set_option maxRecDepth 100000 in
theorem wXX6_sketch_9_1_0 {p : Program} {l : Launch} {e : Env} {s : State} {m : MethodId} {args : Array Value} {below : List Frame} {meth : Method} {c : Code} {A : Nat → Prop} {K : KX} (F : fx_ p s m args meth c cX6_sketch 7 none RX6 wsX6_sketch) (x2 : Int32) (x3 : Int32) (σ : XS) (o : XS) (hf : fXX6_sketch_9_1_0 (kn K) x2 x3 σ = some o) (H : Heap) (locs : List Loc) (ls : Array Slot) (hl : lv_has ls 7 [(0, .ref (ka K 9)), (1, .ref (ka K 1)), (2, .int x2), (3, .int x3)]) (hW : gw_ (kD K) vwCl (tyX K) (wX K) A s σ H locs) : W p l e rXX6_sketch_9_1 s m args below meth c H locs 0 0 (MQ below (gw_Qv (kD K) vwCl (tyX K) (wX K) A o) args s rXX6_sketch_9_1.cells rXX6_sketch_9_1.slots A) (F0 m 0 ls []) := by
  have hx := F.1
  have hb := F.2.1
  have hml := F.2.2.2.1
  have hown := F.2.2.2.2.1
  have hts := F.2.2.2.2.2.1
  have hG : ∀ x ∈ gT, x.before args s = true := fun x h => hts x (List.mem_cons_of_mem _ h)
  unfold fXX6_sketch_9_1_0 at hf
  refine lv_iconst (v := (0 : Int32)) hx hb dX6_sketch_0 (by decide) ?_
  refine lv_istore (lv' := [(4, .int (0 : Int32)), (0, .ref (ka K 9)), (1, .ref (ka K 1)), (2, .int x2), (3, .int x3)]) hx hb dX6_sketch_1 hl (by decide) rfl (fun ls hl => ?_)
  refine lv_iconst (v := (0 : Int32)) hx hb dX6_sketch_3 (by decide) ?_
  refine lv_istore (lv' := [(5, .int (0 : Int32)), (4, .int (0 : Int32)), (0, .ref (ka K 9)), (1, .ref (ka K 1)), (2, .int x2), (3, .int x3)]) hx hb dX6_sketch_4 hl (by decide) rfl (fun ls hl => ?_)
  refine lv_iconst (v := (0 : Int32)) hx hb dX6_sketch_6 (by decide) ?_
  refine lv_istore (lv' := [(6, .int (0 : Int32)), (5, .int (0 : Int32)), (4, .int (0 : Int32)), (0, .ref (ka K 9)), (1, .ref (ka K 1)), (2, .int x2), (3, .int x3)]) hx hb dX6_sketch_7 hl (by decide) rfl (fun ls hl => ?_)
  exact lfix_ind (P := PXX6_sketch_9_1_9 p l e s m args below meth c A K) (fun k9 hk9 t o hf => wXX6_sketch_9_1_9 F hk9 t.1 t.2.1 t.2.2.1 t.2.2.2.1 t.2.2.2.2.1 t.2.2.2.2.2 o hf) FU _ _ hf _ _ _ (lv_sub hl [3, 4, 5, 6, 2, 1, 0] rfl) hW
set_option maxHeartbeats 4000000 in
set_option maxRecDepth 100000 in
theorem mXX6_sketch_9_1 {l : Launch} {K : KX} {σ : XS} {x2 : Int32} {x3 : Int32} {o : XS} (hf : fXX6_sketch_9_1 (kn K) x2 x3 σ = some o) : gw_Mv l (kD K) vwCl (tyX K) (wX K) yX6_sketch wsX6_sketch rXX6_sketch_9_1 [.ref (ka K 9), .ref (ka K 1), .int x2, .int x3] σ o := by
  intro sz
  refine gw_body (cc := cX6_sketch) (maxL := 7) (yret := none) (by decide +kernel) rfl ?_ (Nat.le_of_ble_eq_true rfl)
  intro p e s m below meth c F hsz hW ls hl
  exact wXX6_sketch_9_1_0 F x2 x3 σ o hf s.heap [] ls hl hW
abbrev rXX1_copy_1 : Room := { frames := 1, cells := 0, slots := 0, locals := 26 }
set_option maxHeartbeats 4000000 in
set_option maxRecDepth 100000 in
theorem wXX1_copy_1_0 {p : Program} {l : Launch} {e : Env} {s : State} {m : MethodId} {args : Array Value} {below : List Frame} {meth : Method} {c : Code} {A : Nat → Prop} {K : KX} (F : fx_ p s m args meth c cX1_copy 4 none RX1 wsX1_copy) (x1 : Int32) (x2 : Int32) (x3 : Int32) (σ : XS) (o : XS) (hf : fXX1_copy_1_0 (kn K) x1 x2 x3 σ = some o) (H : Heap) (locs : List Loc) (ls : Array Slot) (hl : lv_has ls 4 [(0, .ref (ka K 1)), (1, .int x1), (2, .int x2), (3, .int x3)]) (hW : gw_ (kD K) vwCl (tyX K) (wX K) A s σ H locs) : W p l e rXX1_copy_1 s m args below meth c H locs 0 0 (MQ below (gw_Qv (kD K) vwCl (tyX K) (wX K) A o) args s rXX1_copy_1.cells rXX1_copy_1.slots A) (F0 m 0 ls []) := by
  have hx := F.1
  have hb := F.2.1
  have hml := F.2.2.2.1
  have hown := F.2.2.2.2.1
  have hts := F.2.2.2.2.2.1
  have hG : ∀ x ∈ gT, x.before args s = true := fun x h => hts x (List.mem_cons_of_mem _ h)
  unfold fXX1_copy_1_0 at hf
  refine lv_iload_n hx hb dX1_copy_0 rfl (lv_at hl 3 rfl) ?_
  refine lv_if_lt (tgt := 48) hx hb dX1_copy_1 (by decide) (fun c1 => ?_) (fun c1 => ?_)
  · replace hf := (if_pos c1).symm.trans hf
    exact gw_retv F hW hf dX1_copy_48
  · replace hf := (if_neg c1).symm.trans hf
    refine lv_iload_n hx hb dX1_copy_4 rfl (lv_at hl 1 rfl) ?_
    refine lv_if_lt (tgt := 48) hx hb dX1_copy_5 (by decide) (fun c2 => ?_) (fun c2 => ?_)
    · replace hf := (if_pos c2).symm.trans hf
      exact gw_retv F hW hf dX1_copy_48
    · replace hf := (if_neg c2).symm.trans hf
      refine lv_iload_n hx hb dX1_copy_8 rfl (lv_at hl 2 rfl) ?_
      refine lv_if_lt (tgt := 48) hx hb dX1_copy_9 (by decide) (fun c3 => ?_) (fun c3 => ?_)
      · replace hf := (if_pos c3).symm.trans hf
        exact gw_retv F hW hf dX1_copy_48
      · replace hf := (if_neg c3).symm.trans hf
        refine lv_iload_n hx hb dX1_copy_12 rfl (lv_at hl 1 rfl) ?_
        refine lv_aload_n hx hb dX1_copy_13 rfl (lv_at hl 0 rfl) ?_
        refine gw_get (v := .ref (ka K 2)) F inc_X1 hW 1 1 0 (aX_1 K σ) rfl (by decide) (hG _ q_1_53) (fun _ h9 => h9) rfl dX1_copy_14 ?_
        refine gw_alen F hW 2 0 (aX_2 K σ) rfl dX1_copy_17 ?_
        refine lv_iload_n hx hb dX1_copy_18 rfl (lv_at hl 3 rfl) ?_
        refine lv_isub hx hb dX1_copy_19 ?_
        refine lv_icmp_gt (tgt := 48) hx hb dX1_copy_20 (by decide) (fun c4 => ?_) (fun c4 => ?_)
        · replace hf := (if_pos c4).symm.trans hf
          exact gw_retv F hW hf dX1_copy_48
        · replace hf := (if_neg c4).symm.trans hf
          refine lv_iload_n hx hb dX1_copy_23 rfl (lv_at hl 2 rfl) ?_
          refine lv_aload_n hx hb dX1_copy_24 rfl (lv_at hl 0 rfl) ?_
          refine gw_get (v := .ref (ka K 2)) F inc_X1 hW 1 1 0 (aX_1 K σ) rfl (by decide) (hG _ q_1_53) (fun _ h9 => h9) rfl dX1_copy_25 ?_
          refine gw_alen F hW 2 0 (aX_2 K σ) rfl dX1_copy_28 ?_
          refine lv_iload_n hx hb dX1_copy_29 rfl (lv_at hl 3 rfl) ?_
          refine lv_isub hx hb dX1_copy_30 ?_
          refine lv_icmp_gt (tgt := 48) hx hb dX1_copy_31 (by decide) (fun c5 => ?_) (fun c5 => ?_)
          · replace hf := (if_pos c5).symm.trans hf
            exact gw_retv F hW hf dX1_copy_48
          · replace hf := (if_neg c5).symm.trans hf
            refine lv_aload_n hx hb dX1_copy_34 rfl (lv_at hl 0 rfl) ?_
            refine gw_get (v := .ref (ka K 2)) F inc_X1 hW 1 1 0 (aX_1 K σ) rfl (by decide) (hG _ q_1_53) (fun _ h9 => h9) rfl dX1_copy_35 ?_
            refine lv_iload_n hx hb dX1_copy_38 rfl (lv_at hl 1 rfl) ?_
            refine lv_aload_n hx hb dX1_copy_39 rfl (lv_at hl 0 rfl) ?_
            refine gw_get (v := .ref (ka K 2)) F inc_X1 hW 1 1 0 (aX_1 K σ) rfl (by decide) (hG _ q_1_53) (fun _ h9 => h9) rfl dX1_copy_40 ?_
            refine lv_iload_n hx hb dX1_copy_43 rfl (lv_at hl 2 rfl) ?_
            refine lv_iload_n hx hb dX1_copy_44 rfl (lv_at hl 3 rfl) ?_
            rcases Decidable.em (x1 < 0 ∨ x2 < 0 ∨ x3 < 0 ∨ ((kn K) * 1024) < x1.toNatClampNeg + x3.toNatClampNeg ∨ ((kn K) * 1024) < x2.toNatClampNeg + x3.toNatClampNeg) with c6 | c6
            · replace hf := (if_pos c6).symm.trans hf
              exact absurd hf (by simp)
            · replace hf := (if_neg c6).symm.trans hf
              rcases Decidable.em (∀ i, i < x3.toNatClampNeg → fits .byte (.int ((σ.2.1 0) (x1.toNatClampNeg + i))) = true) with c7 | c7
              · replace hf := (if_pos c7).symm.trans hf
                refine gw_copyb (σ' := (stC σ 0 0 x1.toNatClampNeg x2.toNatClampNeg x3.toNatClampNeg)) F hW (hG _ q_4_232) (hG _ q_2_35) (hG _ q_2_34) (hG _ q_1_13) 2 2 0 0 (aX_2 K σ) (aX_2 K σ) rfl rfl c6 c7 hl.1 (Nat.le_of_ble_eq_true rfl) (Nat.le_of_ble_eq_true rfl) dX1_copy_45 (sAX_0 _ _ _) (fun H locs hW => ?_)
                exact gw_retv F hW hf dX1_copy_48
              · replace hf := (if_neg c7).symm.trans hf
                exact absurd hf (by simp)
set_option maxHeartbeats 4000000 in
set_option maxRecDepth 100000 in
theorem mXX1_copy_1 {l : Launch} {K : KX} {σ : XS} {x1 : Int32} {x2 : Int32} {x3 : Int32} {o : XS} (hf : fXX1_copy_1 (kn K) x1 x2 x3 σ = some o) : gw_Mv l (kD K) vwCl (tyX K) (wX K) yX1_copy wsX1_copy rXX1_copy_1 [.ref (ka K 1), .int x1, .int x2, .int x3] σ o := by
  intro sz
  refine gw_body (cc := cX1_copy) (maxL := 4) (yret := none) (by decide +kernel) rfl ?_ (Nat.le_of_ble_eq_true rfl)
  intro p e s m below meth c F hsz hW ls hl
  exact wXX1_copy_1_0 F x1 x2 x3 σ o hf s.heap [] ls hl hW
abbrev rXX6_lay_9_1 : Room := { frames := 4, cells := 0, slots := 0, locals := 96 }
def PXX6_lay_9_1_11 (p : Program) (l : Launch) (e : Env) (s : State) (m : MethodId) (args : Array Value) (below : List Frame) (meth : Method) (c : Code) (A : Nat → Prop) (K : KX) (t : (Int32 × XS)) (o : XS) : Prop := ∀ (H : Heap) (locs : List Loc) (ls : Array Slot), lv_has ls 5 [(0, .ref (ka K 9)), (1, .ref (ka K 1)), (3, .int t.1)] → gw_ (kD K) vwCl (tyX K) (wX K) A s t.2 H locs → W p l e rXX6_lay_9_1 s m args below meth c H locs 0 0 (MQ below (gw_Qv (kD K) vwCl (tyX K) (wX K) A o) args s rXX6_lay_9_1.cells rXX6_lay_9_1.slots A) (F0 m 11 ls [])
set_option maxHeartbeats 4000000 in
set_option maxRecDepth 100000 in
theorem wXX6_lay_9_1_11 {p : Program} {l : Launch} {e : Env} {s : State} {m : MethodId} {args : Array Value} {below : List Frame} {meth : Method} {c : Code} {A : Nat → Prop} {K : KX} (F : fx_ p s m args meth c cX6_lay 5 none RX6 wsX6_lay) {k11 : (Int32 × XS) → Option XS} (hk11 : ∀ t o, k11 t = some o → PXX6_lay_9_1_11 p l e s m args below meth c A K t o) (x3 : Int32) (σ : XS) (o : XS) (hf : fXX6_lay_9_1_11 (kn K) k11 x3 σ = some o) (H : Heap) (locs : List Loc) (ls : Array Slot) (hl : lv_has ls 5 [(0, .ref (ka K 9)), (1, .ref (ka K 1)), (3, .int x3)]) (hW : gw_ (kD K) vwCl (tyX K) (wX K) A s σ H locs) : W p l e rXX6_lay_9_1 s m args below meth c H locs 0 0 (MQ below (gw_Qv (kD K) vwCl (tyX K) (wX K) A o) args s rXX6_lay_9_1.cells rXX6_lay_9_1.slots A) (F0 m 11 ls []) := by
  have hx := F.1
  have hb := F.2.1
  have hml := F.2.2.2.1
  have hown := F.2.2.2.2.1
  have hts := F.2.2.2.2.2.1
  have hG : ∀ x ∈ gT, x.before args s = true := fun x h => hts x (List.mem_cons_of_mem _ h)
  unfold fXX6_lay_9_1_11 at hf
  refine lv_iload_n hx hb dX6_lay_11 rfl (lv_at hl 2 rfl) ?_
  refine lv_aload_n hx hb dX6_lay_12 rfl (lv_at hl 0 rfl) ?_
  refine gw_get (v := .ref (ka K 3)) F inc_X6 hW 9 6 0 (aX_9 K σ) rfl (by decide) (hG _ q_1_144) (fun _ h9 => h9) rfl dX6_lay_13 ?_
  obtain ⟨o4, h5, hf⟩ := gw_bind hf
  refine gw_Vi (As := []) (mc' := 0) (ms' := 0) F hW (mXX2_groups_3 h5) (cwV 0 hts (gT_V q_4_139 q_2_74 q_2_75 q_1_4 q_2_76) rfl rfl rfl hdX2_groups ⟨Nat.le_of_ble_eq_true rfl, Nat.le_of_ble_eq_true rfl⟩) 3 2 (aX_3 K σ) rfl rfl hl.1 rfl (Nat.le_of_ble_eq_true rfl) dX6_lay_16 ⟨Nat.le_of_ble_eq_true rfl, Nat.le_of_ble_eq_true rfl⟩ rfl rfl (fun H locs hW => ?_)
  refine lv_icmp_ge (tgt := 61) hx hb dX6_lay_19 (by decide) (fun c7 => ?_) (fun c7 => ?_)
  · replace hf := (if_pos c7).symm.trans hf
    exact gw_retv F hW hf dX6_lay_61
  · replace hf := (if_neg c7).symm.trans hf
    refine lv_aload_n hx hb dX6_lay_22 rfl (lv_at hl 0 rfl) ?_
    refine gw_get (v := .ref (ka K 3)) F inc_X6 hW 9 6 0 (aX_9 K o4.2) rfl (by decide) (hG _ q_1_144) (fun _ h9 => h9) rfl dX6_lay_23 ?_
    refine lv_iload_n hx hb dX6_lay_26 rfl (lv_at hl 2 rfl) ?_
    refine lv_iconst (v := (0 : Int32)) hx hb dX6_lay_27 (by decide) ?_
    obtain ⟨o8, h9, hf⟩ := gw_bind hf
    refine gw_Vi (As := [.int x3, .int (0 : Int32)]) (mc' := 0) (ms' := 0) F hW (mXX2_partAt_3 h9) (cwV 2 hts (gT_V q_4_227 q_2_52 q_2_53 q_1_4 q_2_54) rfl rfl rfl hdX2_partAt ⟨Nat.le_of_ble_eq_true rfl, Nat.le_of_ble_eq_true rfl⟩) 3 2 (aX_3 K o4.2) rfl rfl hl.1 rfl (Nat.le_of_ble_eq_true rfl) dX6_lay_28 ⟨Nat.le_of_ble_eq_true rfl, Nat.le_of_ble_eq_true rfl⟩ rfl rfl (fun H locs hW => ?_)
    refine lv_istore (lv' := [(4, .int o8.1), (0, .ref (ka K 9)), (1, .ref (ka K 1)), (3, .int x3)]) hx hb dX6_lay_31 hl (by decide) rfl (fun ls hl => ?_)
    refine lv_aload_n hx hb dX6_lay_33 rfl (lv_at hl 2 rfl) ?_
    refine lv_sipush (v := (1024 : Int32)) hx hb dX6_lay_34 (by decide) ?_
    refine lv_iload hx hb dX6_lay_37 (lv_at hl 0 rfl) ?_
    refine lv_sipush (v := (2048 : Int32)) hx hb dX6_lay_39 (by decide) ?_
    obtain ⟨o11, h12, hf⟩ := gw_bind hf
    refine gw_Vv (As := [.int (1024 : Int32), .int o8.1, .int (2048 : Int32)]) (mc' := 0) (ms' := 0) F hW (mXX1_copy_1 h12) (cwV 3 hts (gT_V q_4_228 q_4_229 q_4_230 q_1_3 q_4_231) rfl rfl rfl hdX1_copy ⟨Nat.le_of_ble_eq_true rfl, Nat.le_of_ble_eq_true rfl⟩) 1 1 (aX_1 K o8.2) rfl rfl hl.1 rfl (Nat.le_of_ble_eq_true rfl) dX6_lay_42 ⟨Nat.le_of_ble_eq_true rfl, Nat.le_of_ble_eq_true rfl⟩ rfl rfl (fun H locs hW => ?_)
    refine lv_aload_n hx hb dX6_lay_45 rfl (lv_at hl 2 rfl) ?_
    refine lv_iload hx hb dX6_lay_46 (lv_at hl 0 rfl) ?_
    refine lv_bipush (v := (90 : Int32)) hx hb dX6_lay_48 (by decide) ?_
    refine lv_iadd hx hb dX6_lay_50 ?_
    refine lv_iload_n hx hb dX6_lay_51 rfl (lv_at hl 3 rfl) ?_
    obtain ⟨o14, h15, hf⟩ := gw_bind hf
    refine gw_Vv (As := [.int (o8.1 + (90 : Int32)), .int x3]) (mc' := 0) (ms' := 0) F hW (mXX1_put2_1 h15) (cwV 2 hts (gT_V q_4_159 q_4_160 q_4_161 q_1_3 q_4_162) rfl rfl rfl hdX1_put2 ⟨Nat.le_of_ble_eq_true rfl, Nat.le_of_ble_eq_true rfl⟩) 1 1 (aX_1 K o11) rfl rfl hl.1 rfl (Nat.le_of_ble_eq_true rfl) dX6_lay_52 ⟨Nat.le_of_ble_eq_true rfl, Nat.le_of_ble_eq_true rfl⟩ rfl rfl (fun H locs hW => ?_)
    refine lv_iinc (v := (x3 + (1 : Int32))) (lv' := [(3, .int (x3 + (1 : Int32))), (4, .int o8.1), (0, .ref (ka K 9)), (1, .ref (ka K 1))]) hx hb dX6_lay_55 hl (k := 3) rfl rfl (by decide) rfl (fun ls hl => ?_)
    refine lv_goto (tgt := 11) hx hb dX6_lay_58 (by decide) ?_
    exact hk11 _ _ hf _ _ _ (lv_sub hl [2, 3, 0] rfl) hW
set_option maxHeartbeats 4000000 in
set_option maxRecDepth 100000 in
theorem wXX6_lay_9_1_0 {p : Program} {l : Launch} {e : Env} {s : State} {m : MethodId} {args : Array Value} {below : List Frame} {meth : Method} {c : Code} {A : Nat → Prop} {K : KX} (F : fx_ p s m args meth c cX6_lay 5 none RX6 wsX6_lay) (x2 : Int32) (σ : XS) (o : XS) (hf : fXX6_lay_9_1_0 (kn K) x2 σ = some o) (H : Heap) (locs : List Loc) (ls : Array Slot) (hl : lv_has ls 5 [(0, .ref (ka K 9)), (1, .ref (ka K 1)), (2, .int x2)]) (hW : gw_ (kD K) vwCl (tyX K) (wX K) A s σ H locs) : W p l e rXX6_lay_9_1 s m args below meth c H locs 0 0 (MQ below (gw_Qv (kD K) vwCl (tyX K) (wX K) A o) args s rXX6_lay_9_1.cells rXX6_lay_9_1.slots A) (F0 m 0 ls []) := by
  have hx := F.1
  have hb := F.2.1
  have hml := F.2.2.2.1
  have hown := F.2.2.2.2.1
  have hts := F.2.2.2.2.2.1
  have hG : ∀ x ∈ gT, x.before args s = true := fun x h => hts x (List.mem_cons_of_mem _ h)
  unfold fXX6_lay_9_1_0 at hf
  refine lv_aload_n hx hb dX6_lay_0 rfl (lv_at hl 0 rfl) ?_
  refine lv_aload_n hx hb dX6_lay_1 rfl (lv_at hl 1 rfl) ?_
  refine lv_sipush (v := (1024 : Int32)) hx hb dX6_lay_2 (by decide) ?_
  refine lv_iload_n hx hb dX6_lay_5 rfl (lv_at hl 2 rfl) ?_
  obtain ⟨o1, h2, hf⟩ := gw_bind hf
  refine gw_Vv (As := [.ref (ka K 1), .int (1024 : Int32), .int x2]) (mc' := 0) (ms' := 0) F hW (mXX6_sketch_9_1 h2) (cwV 3 hts (gT_V q_4_226 q_4_136 q_4_137 q_1_8 q_4_138) rfl rfl rfl hdX6_sketch ⟨Nat.le_of_ble_eq_true rfl, Nat.le_of_ble_eq_true rfl⟩) 9 6 (aX_9 K σ) rfl rfl hl.1 rfl (Nat.le_of_ble_eq_true rfl) dX6_lay_6 ⟨Nat.le_of_ble_eq_true rfl, Nat.le_of_ble_eq_true rfl⟩ rfl rfl (fun H locs hW => ?_)
  refine lv_iconst (v := (1 : Int32)) hx hb dX6_lay_9 (by decide) ?_
  refine lv_istore_n (lv' := [(3, .int (1 : Int32)), (0, .ref (ka K 9)), (1, .ref (ka K 1)), (2, .int x2)]) hx hb dX6_lay_10 rfl hl (by decide) rfl (fun ls hl => ?_)
  exact lfix_ind (P := PXX6_lay_9_1_11 p l e s m args below meth c A K) (fun k11 hk11 t o hf => wXX6_lay_9_1_11 F hk11 t.1 t.2 o hf) FU _ _ hf _ _ _ (lv_sub hl [1, 2, 0] rfl) hW
set_option maxHeartbeats 4000000 in
set_option maxRecDepth 100000 in
theorem mXX6_lay_9_1 {l : Launch} {K : KX} {σ : XS} {x2 : Int32} {o : XS} (hf : fXX6_lay_9_1 (kn K) x2 σ = some o) : gw_Mv l (kD K) vwCl (tyX K) (wX K) yX6_lay wsX6_lay rXX6_lay_9_1 [.ref (ka K 9), .ref (ka K 1), .int x2] σ o := by
  intro sz
  refine gw_body (cc := cX6_lay) (maxL := 5) (yret := none) (by decide +kernel) rfl ?_ (Nat.le_of_ble_eq_true rfl)
  intro p e s m below meth c F hsz hW ls hl
  exact wXX6_lay_9_1_0 F x2 σ o hf s.heap [] ls hl hW
abbrev rXX2_inodeAt_3 : Room := { frames := 0, cells := 0, slots := 0, locals := 0 }
set_option maxHeartbeats 4000000 in
set_option maxRecDepth 100000 in
theorem wXX2_inodeAt_3_0 {p : Program} {l : Launch} {e : Env} {s : State} {m : MethodId} {args : Array Value} {below : List Frame} {meth : Method} {c : Code} {A : Nat → Prop} {K : KX} (F : fx_ p s m args meth c cX2_inodeAt 3 (some .int) RX2 wsX2_inodeAt) (x1 : Int32) (σ : XS) (o : (Int32 × XS)) (hf : fXX2_inodeAt_3_0 (kn K) x1 σ = some o) (H : Heap) (locs : List Loc) (ls : Array Slot) (hl : lv_has ls 3 [(0, .ref (ka K 3)), (1, .int x1)]) (hW : gw_ (kD K) vwCl (tyX K) (wX K) A s σ H locs) : W p l e rXX2_inodeAt_3 s m args below meth c H locs 0 0 (MQ below (gw_Qi (kD K) vwCl (tyX K) (wX K) A o) args s rXX2_inodeAt_3.cells rXX2_inodeAt_3.slots A) (F0 m 0 ls []) := by
  have hx := F.1
  have hb := F.2.1
  have hml := F.2.2.2.1
  have hown := F.2.2.2.2.1
  have hts := F.2.2.2.2.2.1
  have hG : ∀ x ∈ gT, x.before args s = true := fun x h => hts x (List.mem_cons_of_mem _ h)
  unfold fXX2_inodeAt_3_0 at hf
  refine lv_aload_n hx hb dX2_inodeAt_0 rfl (lv_at hl 0 rfl) ?_
  refine gw_get (v := .int (σ.1 4)) F inc_X2 hW 3 2 3 (aX_3 K σ) rfl (by decide) (hG _ q_1_67) (fun _ h9 => h9) rfl dX2_inodeAt_1 ?_
  refine lv_iconst (v := (1 : Int32)) hx hb dX2_inodeAt_4 (by decide) ?_
  refine lv_icmp_ge (tgt := 10) hx hb dX2_inodeAt_5 (by decide) (fun c1 => ?_) (fun c1 => ?_)
  · replace hf := (if_pos c1).symm.trans hf
    refine lv_iconst (v := (1 : Int32)) hx hb dX2_inodeAt_10 (by decide) ?_
    refine lv_iload_n hx hb dX2_inodeAt_11 rfl (lv_at hl 1 rfl) ?_
    refine lv_iconst (v := (1 : Int32)) hx hb dX2_inodeAt_12 (by decide) ?_
    refine lv_isub hx hb dX2_inodeAt_13 ?_
    refine lv_aload_n hx hb dX2_inodeAt_14 rfl (lv_at hl 0 rfl) ?_
    refine gw_get (v := .int (σ.1 4)) F inc_X2 hW 3 2 3 (aX_3 K σ) rfl (by decide) (hG _ q_1_67) (fun _ h9 => h9) rfl dX2_inodeAt_15 ?_
    rcases Decidable.em ((σ.1 4) = 0) with c2 | c2
    · replace hf := (if_pos c2).symm.trans hf
      exact absurd hf (by simp)
    · replace hf := (if_neg c2).symm.trans hf
      refine lv_idiv hx hb dX2_inodeAt_18 c2 ?_
      refine lv_aload_n hx hb dX2_inodeAt_19 rfl (lv_at hl 0 rfl) ?_
      refine gw_get (v := .int (σ.1 2)) F inc_X2 hW 3 2 1 (aX_3 K σ) rfl (by decide) (hG _ q_1_65) (fun _ h9 => h9) rfl dX2_inodeAt_20 ?_
      refine lv_imul hx hb dX2_inodeAt_23 ?_
      refine lv_iadd hx hb dX2_inodeAt_24 ?_
      refine lv_iconst (v := (4 : Int32)) hx hb dX2_inodeAt_25 (by decide) ?_
      refine lv_iadd hx hb dX2_inodeAt_26 ?_
      refine lv_istore_n (lv' := [(2, .int (((1 : Int32) + (((x1 - (1 : Int32)) / (σ.1 4)) * (σ.1 2))) + (4 : Int32))), (0, .ref (ka K 3)), (1, .int x1)]) hx hb dX2_inodeAt_27 rfl hl (by decide) rfl (fun ls hl => ?_)
      refine lv_iload_n hx hb dX2_inodeAt_28 rfl (lv_at hl 0 rfl) ?_
      refine lv_sipush (v := (1024 : Int32)) hx hb dX2_inodeAt_29 (by decide) ?_
      refine lv_imul hx hb dX2_inodeAt_32 ?_
      refine lv_iload_n hx hb dX2_inodeAt_33 rfl (lv_at hl 2 rfl) ?_
      refine lv_iconst (v := (1 : Int32)) hx hb dX2_inodeAt_34 (by decide) ?_
      refine lv_isub hx hb dX2_inodeAt_35 ?_
      refine lv_aload_n hx hb dX2_inodeAt_36 rfl (lv_at hl 1 rfl) ?_
      refine gw_get (v := .int (σ.1 4)) F inc_X2 hW 3 2 3 (aX_3 K σ) rfl (by decide) (hG _ q_1_67) (fun _ h9 => h9) rfl dX2_inodeAt_37 ?_
      rcases Decidable.em ((σ.1 4) = 0) with c3 | c3
      · replace hf := (if_pos c3).symm.trans hf
        exact absurd hf (by simp)
      · replace hf := (if_neg c3).symm.trans hf
        refine lv_irem hx hb dX2_inodeAt_40 c3 ?_
        refine lv_sipush (v := (128 : Int32)) hx hb dX2_inodeAt_41 (by decide) ?_
        refine lv_imul hx hb dX2_inodeAt_44 ?_
        refine lv_iadd hx hb dX2_inodeAt_45 ?_
        exact gw_reti F hW hf dX2_inodeAt_46
  · replace hf := (if_neg c1).symm.trans hf
    refine lv_iconst (v := (-1 : Int32)) hx hb dX2_inodeAt_8 (by decide) ?_
    exact gw_reti F hW hf dX2_inodeAt_9
set_option maxHeartbeats 4000000 in
set_option maxRecDepth 100000 in
theorem mXX2_inodeAt_3 {l : Launch} {K : KX} {σ : XS} {x1 : Int32} {o : (Int32 × XS)} (hf : fXX2_inodeAt_3 (kn K) x1 σ = some o) : gw_Mi l (kD K) vwCl (tyX K) (wX K) yX2_inodeAt wsX2_inodeAt rXX2_inodeAt_3 [.ref (ka K 3), .int x1] σ o := by
  intro sz
  refine gw_body (cc := cX2_inodeAt) (maxL := 3) (yret := some .int) (by decide +kernel) rfl ?_ (Nat.le_of_ble_eq_true rfl)
  intro p e s m below meth c F hsz hW ls hl
  exact wXX2_inodeAt_3_0 F x1 σ o hf s.heap [] ls hl hW
abbrev rXX4_begin_6 : Room := { frames := 1, cells := 0, slots := 0, locals := 22 }
set_option maxHeartbeats 4000000 in
set_option maxRecDepth 100000 in
theorem wXX4_begin_6_46 {p : Program} {l : Launch} {e : Env} {s : State} {m : MethodId} {args : Array Value} {below : List Frame} {meth : Method} {c : Code} {A : Nat → Prop} {K : KX} (F : fx_ p s m args meth c cX4_begin 4 none RX4 wsX4_begin) (y0 : Int32) (y1 : Int32) (σ : XS) (o : XS) (hf : fXX4_begin_6_46 (kn K) y0 y1 σ = some o) (H : Heap) (locs : List Loc) (ls : Array Slot) (hl : lv_has ls 4 []) (hW : gw_ (kD K) vwCl (tyX K) (wX K) A s σ H locs) : W p l e rXX4_begin_6 s m args below meth c H locs 0 0 (MQ below (gw_Qv (kD K) vwCl (tyX K) (wX K) A o) args s rXX4_begin_6.cells rXX4_begin_6.slots A) (F0 m 46 ls [.int y0, .int y1, .ref (ka K 1)]) := by
  have hx := F.1
  have hb := F.2.1
  have hml := F.2.2.2.1
  have hown := F.2.2.2.2.1
  have hts := F.2.2.2.2.2.1
  have hG : ∀ x ∈ gT, x.before args s = true := fun x h => hts x (List.mem_cons_of_mem _ h)
  unfold fXX4_begin_6_46 at hf
  obtain ⟨o9, h10, hf⟩ := gw_bind hf
  refine gw_Vv (As := [.int y1, .int y0]) (mc' := 0) (ms' := 0) F hW (mXX1_put2_1 h10) (cwV 2 hts (gT_V q_5_12 q_4_160 q_4_161 q_1_3 q_4_162) rfl rfl rfl hdX1_put2 ⟨Nat.le_of_ble_eq_true rfl, Nat.le_of_ble_eq_true rfl⟩) 1 1 (aX_1 K σ) rfl rfl hl.1 rfl (Nat.le_of_ble_eq_true rfl) dX4_begin_46 ⟨Nat.le_of_ble_eq_true rfl, Nat.le_of_ble_eq_true rfl⟩ rfl rfl (fun H locs hW => ?_)
  exact gw_retv F hW hf dX4_begin_49
set_option maxHeartbeats 4000000 in
set_option maxRecDepth 100000 in
theorem wXX4_begin_6_26 {p : Program} {l : Launch} {e : Env} {s : State} {m : MethodId} {args : Array Value} {below : List Frame} {meth : Method} {c : Code} {A : Nat → Prop} {K : KX} (F : fx_ p s m args meth c cX4_begin 4 none RX4 wsX4_begin) (x2 : Int32) (x3 : Int32) (y0 : Int32) (y1 : Int32) (σ : XS) (o : XS) (hf : fXX4_begin_6_26 (kn K) x2 x3 y0 y1 σ = some o) (H : Heap) (locs : List Loc) (ls : Array Slot) (hl : lv_has ls 4 [(0, .ref (ka K 6)), (2, .int x2), (3, .int x3)]) (hW : gw_ (kD K) vwCl (tyX K) (wX K) A s σ H locs) : W p l e rXX4_begin_6 s m args below meth c H locs 0 0 (MQ below (gw_Qv (kD K) vwCl (tyX K) (wX K) A o) args s rXX4_begin_6.cells rXX4_begin_6.slots A) (F0 m 26 ls [.int y0, .int y1, .ref (ka K 1)]) := by
  have hx := F.1
  have hb := F.2.1
  have hml := F.2.2.2.1
  have hown := F.2.2.2.2.1
  have hts := F.2.2.2.2.2.1
  have hG : ∀ x ∈ gT, x.before args s = true := fun x h => hts x (List.mem_cons_of_mem _ h)
  unfold fXX4_begin_6_26 at hf
  obtain ⟨o5, h6, hf⟩ := gw_bind hf
  refine gw_Vv (As := [.int y1, .int y0]) (mc' := 0) (ms' := 0) F hW (mXX1_put2_1 h6) (cwV 2 hts (gT_V q_5_12 q_4_160 q_4_161 q_1_3 q_4_162) rfl rfl rfl hdX1_put2 ⟨Nat.le_of_ble_eq_true rfl, Nat.le_of_ble_eq_true rfl⟩) 1 1 (aX_1 K σ) rfl rfl hl.1 rfl (Nat.le_of_ble_eq_true rfl) dX4_begin_26 ⟨Nat.le_of_ble_eq_true rfl, Nat.le_of_ble_eq_true rfl⟩ rfl rfl (fun H locs hW => ?_)
  refine lv_aload_n hx hb dX4_begin_29 rfl (lv_at hl 0 rfl) ?_
  refine gw_get (v := .ref (ka K 1)) F inc_X4 hW 6 4 0 (aX_6 K o5) rfl (by decide) (hG _ q_1_108) (fun _ h9 => h9) rfl dX4_begin_30 ?_
  refine lv_iload_n hx hb dX4_begin_33 rfl (lv_at hl 2 rfl) ?_
  refine lv_bipush (v := (26 : Int32)) hx hb dX4_begin_34 (by decide) ?_
  refine lv_iadd hx hb dX4_begin_36 ?_
  refine lv_iload_n hx hb dX4_begin_37 rfl (lv_at hl 1 rfl) ?_
  refine lv_if_eq (tgt := 45) hx hb dX4_begin_38 (by decide) (fun c8 => ?_) (fun c8 => ?_)
  · replace hf := (if_pos c8).symm.trans hf
    refine lv_iconst (v := (1 : Int32)) hx hb dX4_begin_45 (by decide) ?_
    exact wXX4_begin_6_46 F (1 : Int32) (x3 + (26 : Int32)) _ _ hf _ _ _ (lv_sub hl [] rfl) hW
  · replace hf := (if_neg c8).symm.trans hf
    refine lv_iconst (v := (2 : Int32)) hx hb dX4_begin_41 (by decide) ?_
    refine lv_goto (tgt := 46) hx hb dX4_begin_42 (by decide) ?_
    exact wXX4_begin_6_46 F (2 : Int32) (x3 + (26 : Int32)) _ _ hf _ _ _ (lv_sub hl [] rfl) hW
set_option maxHeartbeats 4000000 in
set_option maxRecDepth 100000 in
theorem wXX4_begin_6_0 {p : Program} {l : Launch} {e : Env} {s : State} {m : MethodId} {args : Array Value} {below : List Frame} {meth : Method} {c : Code} {A : Nat → Prop} {K : KX} (F : fx_ p s m args meth c cX4_begin 4 none RX4 wsX4_begin) (x1 : Int32) (x2 : Int32) (σ : XS) (o : XS) (hf : fXX4_begin_6_0 (kn K) x1 x2 σ = some o) (H : Heap) (locs : List Loc) (ls : Array Slot) (hl : lv_has ls 4 [(0, .ref (ka K 6)), (1, .int x1), (2, .int x2)]) (hW : gw_ (kD K) vwCl (tyX K) (wX K) A s σ H locs) : W p l e rXX4_begin_6 s m args below meth c H locs 0 0 (MQ below (gw_Qv (kD K) vwCl (tyX K) (wX K) A o) args s rXX4_begin_6.cells rXX4_begin_6.slots A) (F0 m 0 ls []) := by
  have hx := F.1
  have hb := F.2.1
  have hml := F.2.2.2.1
  have hown := F.2.2.2.2.1
  have hts := F.2.2.2.2.2.1
  have hG : ∀ x ∈ gT, x.before args s = true := fun x h => hts x (List.mem_cons_of_mem _ h)
  unfold fXX4_begin_6_0 at hf
  refine lv_aload_n hx hb dX4_begin_0 rfl (lv_at hl 0 rfl) ?_
  refine gw_get (v := .ref (ka K 3)) F inc_X4 hW 6 4 1 (aX_6 K σ) rfl (by decide) (hG _ q_1_109) (fun _ h9 => h9) rfl dX4_begin_1 ?_
  refine lv_iload_n hx hb dX4_begin_4 rfl (lv_at hl 1 rfl) ?_
  obtain ⟨o1, h2, hf⟩ := gw_bind hf
  refine gw_Vi (As := [.int x1]) (mc' := 0) (ms' := 0) F hW (mXX2_inodeAt_3 h2) (cwV 1 hts (gT_V q_2_147 q_2_101 q_2_102 q_1_4 q_2_103) rfl rfl rfl hdX2_inodeAt ⟨Nat.le_of_ble_eq_true rfl, Nat.le_of_ble_eq_true rfl⟩) 3 2 (aX_3 K σ) rfl rfl hl.1 rfl (Nat.le_of_ble_eq_true rfl) dX4_begin_5 ⟨Nat.le_of_ble_eq_true rfl, Nat.le_of_ble_eq_true rfl⟩ rfl rfl (fun H locs hW => ?_)
  refine lv_istore_n (lv' := [(3, .int o1.1), (0, .ref (ka K 6)), (1, .int x1), (2, .int x2)]) hx hb dX4_begin_8 rfl hl (by decide) rfl (fun ls hl => ?_)
  refine lv_aload_n hx hb dX4_begin_9 rfl (lv_at hl 1 rfl) ?_
  refine gw_get (v := .ref (ka K 1)) F inc_X4 hW 6 4 0 (aX_6 K o1.2) rfl (by decide) (hG _ q_1_108) (fun _ h9 => h9) rfl dX4_begin_10 ?_
  refine lv_iload_n hx hb dX4_begin_13 rfl (lv_at hl 0 rfl) ?_
  refine lv_iload_n hx hb dX4_begin_14 rfl (lv_at hl 3 rfl) ?_
  refine lv_if_eq (tgt := 24) hx hb dX4_begin_15 (by decide) (fun c4 => ?_) (fun c4 => ?_)
  · replace hf := (if_pos c4).symm.trans hf
    refine lv_ldc (own := RX4) (v := (33188 : Int32)) hx hb hown (hts _ (List.mem_cons_of_mem _ q_5_11)) dX4_begin_24 ?_
    exact wXX4_begin_6_26 F x2 o1.1 (33188 : Int32) o1.1 _ _ hf _ _ _ (lv_sub hl [1, 3, 0] rfl) hW
  · replace hf := (if_neg c4).symm.trans hf
    refine lv_sipush (v := (16877 : Int32)) hx hb dX4_begin_18 (by decide) ?_
    refine lv_goto (tgt := 26) hx hb dX4_begin_21 (by decide) ?_
    exact wXX4_begin_6_26 F x2 o1.1 (16877 : Int32) o1.1 _ _ hf _ _ _ (lv_sub hl [1, 3, 0] rfl) hW
set_option maxHeartbeats 4000000 in
set_option maxRecDepth 100000 in
theorem mXX4_begin_6 {l : Launch} {K : KX} {σ : XS} {x1 : Int32} {x2 : Int32} {o : XS} (hf : fXX4_begin_6 (kn K) x1 x2 σ = some o) : gw_Mv l (kD K) vwCl (tyX K) (wX K) yX4_begin wsX4_begin rXX4_begin_6 [.ref (ka K 6), .int x1, .int x2] σ o := by
  intro sz
  refine gw_body (cc := cX4_begin) (maxL := 4) (yret := none) (by decide +kernel) rfl ?_ (Nat.le_of_ble_eq_true rfl)
  intro p e s m below meth c F hsz hW ls hl
  exact wXX4_begin_6_0 F x1 x2 σ o hf s.heap [] ls hl hW
abbrev rXX2_groupOfInode_3 : Room := { frames := 0, cells := 0, slots := 0, locals := 0 }
set_option maxHeartbeats 4000000 in
set_option maxRecDepth 100000 in
theorem wXX2_groupOfInode_3_0 {p : Program} {l : Launch} {e : Env} {s : State} {m : MethodId} {args : Array Value} {below : List Frame} {meth : Method} {c : Code} {A : Nat → Prop} {K : KX} (F : fx_ p s m args meth c cX2_groupOfInode 2 (some .int) RX2 wsX2_groupOfInode) (x1 : Int32) (σ : XS) (o : (Int32 × XS)) (hf : fXX2_groupOfInode_3_0 (kn K) x1 σ = some o) (H : Heap) (locs : List Loc) (ls : Array Slot) (hl : lv_has ls 2 [(0, .ref (ka K 3)), (1, .int x1)]) (hW : gw_ (kD K) vwCl (tyX K) (wX K) A s σ H locs) : W p l e rXX2_groupOfInode_3 s m args below meth c H locs 0 0 (MQ below (gw_Qi (kD K) vwCl (tyX K) (wX K) A o) args s rXX2_groupOfInode_3.cells rXX2_groupOfInode_3.slots A) (F0 m 0 ls []) := by
  have hx := F.1
  have hb := F.2.1
  have hml := F.2.2.2.1
  have hown := F.2.2.2.2.1
  have hts := F.2.2.2.2.2.1
  have hG : ∀ x ∈ gT, x.before args s = true := fun x h => hts x (List.mem_cons_of_mem _ h)
  unfold fXX2_groupOfInode_3_0 at hf
  refine lv_aload_n hx hb dX2_groupOfInode_0 rfl (lv_at hl 0 rfl) ?_
  refine gw_get (v := .int (σ.1 4)) F inc_X2 hW 3 2 3 (aX_3 K σ) rfl (by decide) (hG _ q_1_67) (fun _ h9 => h9) rfl dX2_groupOfInode_1 ?_
  refine lv_if_le (tgt := 18) hx hb dX2_groupOfInode_4 (by decide) (fun c1 => ?_) (fun c1 => ?_)
  · replace hf := (if_pos c1).symm.trans hf
    refine lv_iconst (v := (0 : Int32)) hx hb dX2_groupOfInode_18 (by decide) ?_
    exact gw_reti F hW hf dX2_groupOfInode_19
  · replace hf := (if_neg c1).symm.trans hf
    refine lv_iload_n hx hb dX2_groupOfInode_7 rfl (lv_at hl 1 rfl) ?_
    refine lv_iconst (v := (1 : Int32)) hx hb dX2_groupOfInode_8 (by decide) ?_
    refine lv_isub hx hb dX2_groupOfInode_9 ?_
    refine lv_aload_n hx hb dX2_groupOfInode_10 rfl (lv_at hl 0 rfl) ?_
    refine gw_get (v := .int (σ.1 4)) F inc_X2 hW 3 2 3 (aX_3 K σ) rfl (by decide) (hG _ q_1_67) (fun _ h9 => h9) rfl dX2_groupOfInode_11 ?_
    rcases Decidable.em ((σ.1 4) = 0) with c2 | c2
    · replace hf := (if_pos c2).symm.trans hf
      exact absurd hf (by simp)
    · replace hf := (if_neg c2).symm.trans hf
      refine lv_idiv hx hb dX2_groupOfInode_14 c2 ?_
      refine lv_goto (tgt := 19) hx hb dX2_groupOfInode_15 (by decide) ?_
      exact gw_reti F hW hf dX2_groupOfInode_19
set_option maxHeartbeats 4000000 in
set_option maxRecDepth 100000 in
theorem mXX2_groupOfInode_3 {l : Launch} {K : KX} {σ : XS} {x1 : Int32} {o : (Int32 × XS)} (hf : fXX2_groupOfInode_3 (kn K) x1 σ = some o) : gw_Mi l (kD K) vwCl (tyX K) (wX K) yX2_groupOfInode wsX2_groupOfInode rXX2_groupOfInode_3 [.ref (ka K 3), .int x1] σ o := by
  intro sz
  refine gw_body (cc := cX2_groupOfInode) (maxL := 2) (yret := some .int) (by decide +kernel) rfl ?_ (Nat.le_of_ble_eq_true rfl)
  intro p e s m below meth c F hsz hW ls hl
  exact wXX2_groupOfInode_3_0 F x1 σ o hf s.heap [] ls hl hW
abbrev rXX4_countDirectories_6 : Room := { frames := 1, cells := 0, slots := 0, locals := 22 }
def PXX4_countDirectories_6_12 (p : Program) (l : Launch) (e : Env) (s : State) (m : MethodId) (args : Array Value) (below : List Frame) (meth : Method) (c : Code) (A : Nat → Prop) (K : KX) (t : (Int32 × Int32 × Int32 × XS)) (o : XS) : Prop := ∀ (H : Heap) (locs : List Loc) (ls : Array Slot), lv_has ls 6 [(0, .ref (ka K 6)), (2, .int t.1), (3, .int t.2.1), (4, .int t.2.2.1)] → gw_ (kD K) vwCl (tyX K) (wX K) A s t.2.2.2 H locs → W p l e rXX4_countDirectories_6 s m args below meth c H locs 0 0 (MQ below (gw_Qv (kD K) vwCl (tyX K) (wX K) A o) args s rXX4_countDirectories_6.cells rXX4_countDirectories_6.slots A) (F0 m 12 ls [])
set_option maxHeartbeats 4000000 in
set_option maxRecDepth 100000 in
theorem wXX4_countDirectories_6_12 {p : Program} {l : Launch} {e : Env} {s : State} {m : MethodId} {args : Array Value} {below : List Frame} {meth : Method} {c : Code} {A : Nat → Prop} {K : KX} (F : fx_ p s m args meth c cX4_countDirectories 6 none RX4 wsX4_countDirectories) {k12 : (Int32 × Int32 × Int32 × XS) → Option XS} (hk12 : ∀ t o, k12 t = some o → PXX4_countDirectories_6_12 p l e s m args below meth c A K t o) (x2 : Int32) (x3 : Int32) (x4 : Int32) (σ : XS) (o : XS) (hf : fXX4_countDirectories_6_12 (kn K) k12 x2 x3 x4 σ = some o) (H : Heap) (locs : List Loc) (ls : Array Slot) (hl : lv_has ls 6 [(0, .ref (ka K 6)), (2, .int x2), (3, .int x3), (4, .int x4)]) (hW : gw_ (kD K) vwCl (tyX K) (wX K) A s σ H locs) : W p l e rXX4_countDirectories_6 s m args below meth c H locs 0 0 (MQ below (gw_Qv (kD K) vwCl (tyX K) (wX K) A o) args s rXX4_countDirectories_6.cells rXX4_countDirectories_6.slots A) (F0 m 12 ls []) := by
  have hx := F.1
  have hb := F.2.1
  have hml := F.2.2.2.1
  have hown := F.2.2.2.2.1
  have hts := F.2.2.2.2.2.1
  have hG : ∀ x ∈ gT, x.before args s = true := fun x h => hts x (List.mem_cons_of_mem _ h)
  unfold fXX4_countDirectories_6_12 at hf
  refine lv_iload hx hb dX4_countDirectories_12 (lv_at hl 3 rfl) ?_
  refine lv_aload_n hx hb dX4_countDirectories_14 rfl (lv_at hl 0 rfl) ?_
  refine gw_get (v := .ref (ka K 3)) F inc_X4 hW 6 4 1 (aX_6 K σ) rfl (by decide) (hG _ q_1_109) (fun _ h9 => h9) rfl dX4_countDirectories_15 ?_
  obtain ⟨o4, h5, hf⟩ := gw_bind hf
  refine gw_Vi (As := []) (mc' := 0) (ms' := 0) F hW (mXX2_groups_3 h5) (cwV 0 hts (gT_V q_5_21 q_2_74 q_2_75 q_1_4 q_2_76) rfl rfl rfl hdX2_groups ⟨Nat.le_of_ble_eq_true rfl, Nat.le_of_ble_eq_true rfl⟩) 3 2 (aX_3 K σ) rfl rfl hl.1 rfl (Nat.le_of_ble_eq_true rfl) dX4_countDirectories_18 ⟨Nat.le_of_ble_eq_true rfl, Nat.le_of_ble_eq_true rfl⟩ rfl rfl (fun H locs hW => ?_)
  refine lv_icmp_ge (tgt := 70) hx hb dX4_countDirectories_21 (by decide) (fun c7 => ?_) (fun c7 => ?_)
  · replace hf := (if_pos c7).symm.trans hf
    exact gw_retv F hW hf dX4_countDirectories_70
  · replace hf := (if_neg c7).symm.trans hf
    refine lv_aload_n hx hb dX4_countDirectories_24 rfl (lv_at hl 0 rfl) ?_
    refine gw_get (v := .ref (ka K 3)) F inc_X4 hW 6 4 1 (aX_6 K o4.2) rfl (by decide) (hG _ q_1_109) (fun _ h9 => h9) rfl dX4_countDirectories_25 ?_
    refine lv_iload hx hb dX4_countDirectories_28 (lv_at hl 3 rfl) ?_
    refine lv_iconst (v := (1 : Int32)) hx hb dX4_countDirectories_30 (by decide) ?_
    obtain ⟨o8, h9, hf⟩ := gw_bind hf
    refine gw_Vi (As := [.int x4, .int (1 : Int32)]) (mc' := 0) (ms' := 0) F hW (mXX2_partAt_3 h9) (cwV 2 hts (gT_V q_4_167 q_2_52 q_2_53 q_1_4 q_2_54) rfl rfl rfl hdX2_partAt ⟨Nat.le_of_ble_eq_true rfl, Nat.le_of_ble_eq_true rfl⟩) 3 2 (aX_3 K o4.2) rfl rfl hl.1 rfl (Nat.le_of_ble_eq_true rfl) dX4_countDirectories_31 ⟨Nat.le_of_ble_eq_true rfl, Nat.le_of_ble_eq_true rfl⟩ rfl rfl (fun H locs hW => ?_)
    refine lv_bipush (v := (32 : Int32)) hx hb dX4_countDirectories_34 (by decide) ?_
    refine lv_iload_n hx hb dX4_countDirectories_36 rfl (lv_at hl 2 rfl) ?_
    refine lv_imul hx hb dX4_countDirectories_37 ?_
    refine lv_iadd hx hb dX4_countDirectories_38 ?_
    refine lv_bipush (v := (16 : Int32)) hx hb dX4_countDirectories_39 (by decide) ?_
    refine lv_iadd hx hb dX4_countDirectories_41 ?_
    refine lv_istore (lv' := [(5, .int ((o8.1 + ((32 : Int32) * x3)) + (16 : Int32))), (0, .ref (ka K 6)), (2, .int x2), (3, .int x3), (4, .int x4)]) hx hb dX4_countDirectories_42 hl (by decide) rfl (fun ls hl => ?_)
    refine lv_aload_n hx hb dX4_countDirectories_44 rfl (lv_at hl 1 rfl) ?_
    refine gw_get (v := .ref (ka K 1)) F inc_X4 hW 6 4 0 (aX_6 K o8.2) rfl (by decide) (hG _ q_1_108) (fun _ h9 => h9) rfl dX4_countDirectories_45 ?_
    refine lv_iload hx hb dX4_countDirectories_48 (lv_at hl 0 rfl) ?_
    refine lv_aload_n hx hb dX4_countDirectories_50 rfl (lv_at hl 1 rfl) ?_
    refine gw_get (v := .ref (ka K 1)) F inc_X4 hW 6 4 0 (aX_6 K o8.2) rfl (by decide) (hG _ q_1_108) (fun _ h9 => h9) rfl dX4_countDirectories_51 ?_
    refine lv_iload hx hb dX4_countDirectories_54 (lv_at hl 0 rfl) ?_
    obtain ⟨o11, h12, hf⟩ := gw_bind hf
    refine gw_Vi (As := [.int ((o8.1 + ((32 : Int32) * x3)) + (16 : Int32))]) (mc' := 0) (ms' := 0) F hW (mXX1_get2_1 h12) (cwV 1 hts (gT_V q_2_148 q_2_110 q_2_111 q_1_3 q_2_112) rfl rfl rfl hdX1_get2 ⟨Nat.le_of_ble_eq_true rfl, Nat.le_of_ble_eq_true rfl⟩) 1 1 (aX_1 K o8.2) rfl rfl hl.1 rfl (Nat.le_of_ble_eq_true rfl) dX4_countDirectories_56 ⟨Nat.le_of_ble_eq_true rfl, Nat.le_of_ble_eq_true rfl⟩ rfl rfl (fun H locs hW => ?_)
    refine lv_iload_n hx hb dX4_countDirectories_59 rfl (lv_at hl 2 rfl) ?_
    refine lv_iadd hx hb dX4_countDirectories_60 ?_
    obtain ⟨o14, h15, hf⟩ := gw_bind hf
    refine gw_Vv (As := [.int ((o8.1 + ((32 : Int32) * x3)) + (16 : Int32)), .int (o11.1 + x2)]) (mc' := 0) (ms' := 0) F hW (mXX1_put2_1 h15) (cwV 2 hts (gT_V q_5_12 q_4_160 q_4_161 q_1_3 q_4_162) rfl rfl rfl hdX1_put2 ⟨Nat.le_of_ble_eq_true rfl, Nat.le_of_ble_eq_true rfl⟩) 1 1 (aX_1 K o11.2) rfl rfl hl.1 rfl (Nat.le_of_ble_eq_true rfl) dX4_countDirectories_61 ⟨Nat.le_of_ble_eq_true rfl, Nat.le_of_ble_eq_true rfl⟩ rfl rfl (fun H locs hW => ?_)
    refine lv_iinc (v := (x4 + (1 : Int32))) (lv' := [(4, .int (x4 + (1 : Int32))), (5, .int ((o8.1 + ((32 : Int32) * x3)) + (16 : Int32))), (0, .ref (ka K 6)), (2, .int x2), (3, .int x3)]) hx hb dX4_countDirectories_64 hl (k := 4) rfl rfl (by decide) rfl (fun ls hl => ?_)
    refine lv_goto (tgt := 12) hx hb dX4_countDirectories_67 (by decide) ?_
    exact hk12 _ _ hf _ _ _ (lv_sub hl [2, 3, 4, 0] rfl) hW
set_option maxHeartbeats 4000000 in
set_option maxRecDepth 100000 in
theorem wXX4_countDirectories_6_0 {p : Program} {l : Launch} {e : Env} {s : State} {m : MethodId} {args : Array Value} {below : List Frame} {meth : Method} {c : Code} {A : Nat → Prop} {K : KX} (F : fx_ p s m args meth c cX4_countDirectories 6 none RX4 wsX4_countDirectories) (x1 : Int32) (x2 : Int32) (σ : XS) (o : XS) (hf : fXX4_countDirectories_6_0 (kn K) x1 x2 σ = some o) (H : Heap) (locs : List Loc) (ls : Array Slot) (hl : lv_has ls 6 [(0, .ref (ka K 6)), (1, .int x1), (2, .int x2)]) (hW : gw_ (kD K) vwCl (tyX K) (wX K) A s σ H locs) : W p l e rXX4_countDirectories_6 s m args below meth c H locs 0 0 (MQ below (gw_Qv (kD K) vwCl (tyX K) (wX K) A o) args s rXX4_countDirectories_6.cells rXX4_countDirectories_6.slots A) (F0 m 0 ls []) := by
  have hx := F.1
  have hb := F.2.1
  have hml := F.2.2.2.1
  have hown := F.2.2.2.2.1
  have hts := F.2.2.2.2.2.1
  have hG : ∀ x ∈ gT, x.before args s = true := fun x h => hts x (List.mem_cons_of_mem _ h)
  unfold fXX4_countDirectories_6_0 at hf
  refine lv_aload_n hx hb dX4_countDirectories_0 rfl (lv_at hl 0 rfl) ?_
  refine gw_get (v := .ref (ka K 3)) F inc_X4 hW 6 4 1 (aX_6 K σ) rfl (by decide) (hG _ q_1_109) (fun _ h9 => h9) rfl dX4_countDirectories_1 ?_
  refine lv_iload_n hx hb dX4_countDirectories_4 rfl (lv_at hl 1 rfl) ?_
  obtain ⟨o1, h2, hf⟩ := gw_bind hf
  refine gw_Vi (As := [.int x1]) (mc' := 0) (ms' := 0) F hW (mXX2_groupOfInode_3 h2) (cwV 1 hts (gT_V q_5_17 q_5_18 q_5_19 q_1_4 q_5_20) rfl rfl rfl hdX2_groupOfInode ⟨Nat.le_of_ble_eq_true rfl, Nat.le_of_ble_eq_true rfl⟩) 3 2 (aX_3 K σ) rfl rfl hl.1 rfl (Nat.le_of_ble_eq_true rfl) dX4_countDirectories_5 ⟨Nat.le_of_ble_eq_true rfl, Nat.le_of_ble_eq_true rfl⟩ rfl rfl (fun H locs hW => ?_)
  refine lv_istore_n (lv' := [(3, .int o1.1), (0, .ref (ka K 6)), (1, .int x1), (2, .int x2)]) hx hb dX4_countDirectories_8 rfl hl (by decide) rfl (fun ls hl => ?_)
  refine lv_iconst (v := (0 : Int32)) hx hb dX4_countDirectories_9 (by decide) ?_
  refine lv_istore (lv' := [(4, .int (0 : Int32)), (3, .int o1.1), (0, .ref (ka K 6)), (1, .int x1), (2, .int x2)]) hx hb dX4_countDirectories_10 hl (by decide) rfl (fun ls hl => ?_)
  exact lfix_ind (P := PXX4_countDirectories_6_12 p l e s m args below meth c A K) (fun k12 hk12 t o hf => wXX4_countDirectories_6_12 F hk12 t.1 t.2.1 t.2.2.1 t.2.2.2 o hf) FU _ _ hf _ _ _ (lv_sub hl [2, 4, 1, 0] rfl) hW
set_option maxHeartbeats 4000000 in
set_option maxRecDepth 100000 in
theorem mXX4_countDirectories_6 {l : Launch} {K : KX} {σ : XS} {x1 : Int32} {x2 : Int32} {o : XS} (hf : fXX4_countDirectories_6 (kn K) x1 x2 σ = some o) : gw_Mv l (kD K) vwCl (tyX K) (wX K) yX4_countDirectories wsX4_countDirectories rXX4_countDirectories_6 [.ref (ka K 6), .int x1, .int x2] σ o := by
  intro sz
  refine gw_body (cc := cX4_countDirectories) (maxL := 6) (yret := none) (by decide +kernel) rfl ?_ (Nat.le_of_ble_eq_true rfl)
  intro p e s m below meth c F hsz hW ls hl
  exact wXX4_countDirectories_6_0 F x1 x2 σ o hf s.heap [] ls hl hW
abbrev rXX1_get4_1 : Room := { frames := 0, cells := 0, slots := 0, locals := 0 }
set_option maxHeartbeats 4000000 in
set_option maxRecDepth 100000 in
theorem wXX1_get4_1_0 {p : Program} {l : Launch} {e : Env} {s : State} {m : MethodId} {args : Array Value} {below : List Frame} {meth : Method} {c : Code} {A : Nat → Prop} {K : KX} (F : fx_ p s m args meth c cX1_get4 2 (some .int) RX1 wsX1_get4) (x1 : Int32) (σ : XS) (o : (Int32 × XS)) (hf : fXX1_get4_1_0 (kn K) x1 σ = some o) (H : Heap) (locs : List Loc) (ls : Array Slot) (hl : lv_has ls 2 [(0, .ref (ka K 1)), (1, .int x1)]) (hW : gw_ (kD K) vwCl (tyX K) (wX K) A s σ H locs) : W p l e rXX1_get4_1 s m args below meth c H locs 0 0 (MQ below (gw_Qi (kD K) vwCl (tyX K) (wX K) A o) args s rXX1_get4_1.cells rXX1_get4_1.slots A) (F0 m 0 ls []) := by
  have hx := F.1
  have hb := F.2.1
  have hml := F.2.2.2.1
  have hown := F.2.2.2.2.1
  have hts := F.2.2.2.2.2.1
  have hG : ∀ x ∈ gT, x.before args s = true := fun x h => hts x (List.mem_cons_of_mem _ h)
  unfold fXX1_get4_1_0 at hf
  refine lv_iload_n hx hb dX1_get4_0 rfl (lv_at hl 1 rfl) ?_
  refine lv_if_lt (tgt := 15) hx hb dX1_get4_1 (by decide) (fun c1 => ?_) (fun c1 => ?_)
  · replace hf := (if_pos c1).symm.trans hf
    refine lv_iconst (v := (0 : Int32)) hx hb dX1_get4_15 (by decide) ?_
    exact gw_reti F hW hf dX1_get4_16
  · replace hf := (if_neg c1).symm.trans hf
    refine lv_iload_n hx hb dX1_get4_4 rfl (lv_at hl 1 rfl) ?_
    refine lv_aload_n hx hb dX1_get4_5 rfl (lv_at hl 0 rfl) ?_
    refine gw_get (v := .ref (ka K 2)) F inc_X1 hW 1 1 0 (aX_1 K σ) rfl (by decide) (hG _ q_1_53) (fun _ h9 => h9) rfl dX1_get4_6 ?_
    refine gw_alen F hW 2 0 (aX_2 K σ) rfl dX1_get4_9 ?_
    refine lv_iconst (v := (4 : Int32)) hx hb dX1_get4_10 (by decide) ?_
    refine lv_isub hx hb dX1_get4_11 ?_
    refine lv_icmp_le (tgt := 17) hx hb dX1_get4_12 (by decide) (fun c2 => ?_) (fun c2 => ?_)
    · replace hf := (if_pos c2).symm.trans hf
      refine lv_aload_n hx hb dX1_get4_17 rfl (lv_at hl 0 rfl) ?_
      refine gw_get (v := .ref (ka K 2)) F inc_X1 hW 1 1 0 (aX_1 K σ) rfl (by decide) (hG _ q_1_53) (fun _ h9 => h9) rfl dX1_get4_18 ?_
      refine lv_iload_n hx hb dX1_get4_21 rfl (lv_at hl 1 rfl) ?_
      rcases Decidable.em (x1 < 0 ∨ ((kn K) * 1024) ≤ x1.toNatClampNeg) with c3 | c3
      · replace hf := (if_pos c3).symm.trans hf
        exact absurd hf (by simp)
      · replace hf := (if_neg c3).symm.trans hf
        refine gw_bald F hW 2 0 (aX_2 K σ) rfl c3 dX1_get4_22 ?_
        refine lv_sipush (v := (255 : Int32)) hx hb dX1_get4_23 (by decide) ?_
        refine lv_iand hx hb dX1_get4_26 ?_
        refine lv_aload_n hx hb dX1_get4_27 rfl (lv_at hl 0 rfl) ?_
        refine gw_get (v := .ref (ka K 2)) F inc_X1 hW 1 1 0 (aX_1 K σ) rfl (by decide) (hG _ q_1_53) (fun _ h9 => h9) rfl dX1_get4_28 ?_
        refine lv_iload_n hx hb dX1_get4_31 rfl (lv_at hl 1 rfl) ?_
        refine lv_iconst (v := (1 : Int32)) hx hb dX1_get4_32 (by decide) ?_
        refine lv_iadd hx hb dX1_get4_33 ?_
        rcases Decidable.em ((x1 + (1 : Int32)) < 0 ∨ ((kn K) * 1024) ≤ (x1 + (1 : Int32)).toNatClampNeg) with c4 | c4
        · replace hf := (if_pos c4).symm.trans hf
          exact absurd hf (by simp)
        · replace hf := (if_neg c4).symm.trans hf
          refine gw_bald F hW 2 0 (aX_2 K σ) rfl c4 dX1_get4_34 ?_
          refine lv_sipush (v := (255 : Int32)) hx hb dX1_get4_35 (by decide) ?_
          refine lv_iand hx hb dX1_get4_38 ?_
          refine lv_bipush (v := (8 : Int32)) hx hb dX1_get4_39 (by decide) ?_
          refine lv_ishl hx hb dX1_get4_41 ?_
          refine lv_ior hx hb dX1_get4_42 ?_
          refine lv_aload_n hx hb dX1_get4_43 rfl (lv_at hl 0 rfl) ?_
          refine gw_get (v := .ref (ka K 2)) F inc_X1 hW 1 1 0 (aX_1 K σ) rfl (by decide) (hG _ q_1_53) (fun _ h9 => h9) rfl dX1_get4_44 ?_
          refine lv_iload_n hx hb dX1_get4_47 rfl (lv_at hl 1 rfl) ?_
          refine lv_iconst (v := (2 : Int32)) hx hb dX1_get4_48 (by decide) ?_
          refine lv_iadd hx hb dX1_get4_49 ?_
          rcases Decidable.em ((x1 + (2 : Int32)) < 0 ∨ ((kn K) * 1024) ≤ (x1 + (2 : Int32)).toNatClampNeg) with c5 | c5
          · replace hf := (if_pos c5).symm.trans hf
            exact absurd hf (by simp)
          · replace hf := (if_neg c5).symm.trans hf
            refine gw_bald F hW 2 0 (aX_2 K σ) rfl c5 dX1_get4_50 ?_
            refine lv_sipush (v := (255 : Int32)) hx hb dX1_get4_51 (by decide) ?_
            refine lv_iand hx hb dX1_get4_54 ?_
            refine lv_bipush (v := (16 : Int32)) hx hb dX1_get4_55 (by decide) ?_
            refine lv_ishl hx hb dX1_get4_57 ?_
            refine lv_ior hx hb dX1_get4_58 ?_
            refine lv_aload_n hx hb dX1_get4_59 rfl (lv_at hl 0 rfl) ?_
            refine gw_get (v := .ref (ka K 2)) F inc_X1 hW 1 1 0 (aX_1 K σ) rfl (by decide) (hG _ q_1_53) (fun _ h9 => h9) rfl dX1_get4_60 ?_
            refine lv_iload_n hx hb dX1_get4_63 rfl (lv_at hl 1 rfl) ?_
            refine lv_iconst (v := (3 : Int32)) hx hb dX1_get4_64 (by decide) ?_
            refine lv_iadd hx hb dX1_get4_65 ?_
            rcases Decidable.em ((x1 + (3 : Int32)) < 0 ∨ ((kn K) * 1024) ≤ (x1 + (3 : Int32)).toNatClampNeg) with c6 | c6
            · replace hf := (if_pos c6).symm.trans hf
              exact absurd hf (by simp)
            · replace hf := (if_neg c6).symm.trans hf
              refine gw_bald F hW 2 0 (aX_2 K σ) rfl c6 dX1_get4_66 ?_
              refine lv_sipush (v := (255 : Int32)) hx hb dX1_get4_67 (by decide) ?_
              refine lv_iand hx hb dX1_get4_70 ?_
              refine lv_bipush (v := (24 : Int32)) hx hb dX1_get4_71 (by decide) ?_
              refine lv_ishl hx hb dX1_get4_73 ?_
              refine lv_ior hx hb dX1_get4_74 ?_
              exact gw_reti F hW hf dX1_get4_75
    · replace hf := (if_neg c2).symm.trans hf
      refine lv_iconst (v := (0 : Int32)) hx hb dX1_get4_15 (by decide) ?_
      exact gw_reti F hW hf dX1_get4_16
set_option maxHeartbeats 4000000 in
set_option maxRecDepth 100000 in
theorem mXX1_get4_1 {l : Launch} {K : KX} {σ : XS} {x1 : Int32} {o : (Int32 × XS)} (hf : fXX1_get4_1 (kn K) x1 σ = some o) : gw_Mi l (kD K) vwCl (tyX K) (wX K) yX1_get4 wsX1_get4 rXX1_get4_1 [.ref (ka K 1), .int x1] σ o := by
  intro sz
  refine gw_body (cc := cX1_get4) (maxL := 2) (yret := some .int) (by decide +kernel) rfl ?_ (Nat.le_of_ble_eq_true rfl)
  intro p e s m below meth c F hsz hW ls hl
  exact wXX1_get4_1_0 F x1 σ o hf s.heap [] ls hl hW
