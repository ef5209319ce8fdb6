abbrev rXX7_inodesHold_10 : Room := { frames := 4, cells := 0, slots := 0, locals := 97 }
def PXX7_inodesHold_10_2 (p : Program) (l : Launch) (e : Env) (s : State) (m : MethodId) (args : Array Value) (below : List Frame) (meth : Method) (c : Code) (A : Nat → Prop) (K : KX) (t : (Int32 × XS)) (o : (Int32 × XS)) : Prop := ∀ (H : Heap) (locs : List Loc) (ls : Array Slot), lv_has ls 4 [(0, .ref (ka K 10)), (1, .int t.1)] → gw_ (kD K) vwCl (tyX K) (wX K) A s t.2 H locs → W p l e rXX7_inodesHold_10 s m args below meth c H locs 0 0 (MQ below (va_Qi (fun r u => (r = o.1 ∧ u = o.2) ∧ (o.1 = 0 ∨ o.1 = 1)) (gw_B (kD K) vwCl (tyX K) (wX K) A) A) args s rXX7_inodesHold_10.cells rXX7_inodesHold_10.slots A) (F0 m 2 ls [])
set_option maxHeartbeats 4000000 in
set_option maxRecDepth 100000 in
theorem wXX7_inodesHold_10_83 {p : Program} {l : Launch} {e : Env} {s : State} {m : MethodId} {args : Array Value} {below : List Frame} {meth : Method} {c : Code} {A : Nat → Prop} {K : KX} (F : fx_ p s m args meth c cX7_inodesHold 4 (some .boolean) RX7 wsX7_inodesHold) {k2 : (Int32 × XS) → Option (Int32 × XS)} (hk2 : ∀ t o, k2 t = some o → PXX7_inodesHold_10_2 p l e s m args below meth c A K t o) (x1 : Int32) (σ : XS) (o : (Int32 × XS)) (hf : fXX7_inodesHold_10_83 (kn K) k2 x1 σ = some o) (H : Heap) (locs : List Loc) (ls : Array Slot) (hl : lv_has ls 4 [(0, .ref (ka K 10)), (1, .int x1)]) (hW : gw_ (kD K) vwCl (tyX K) (wX K) A s σ H locs) : W p l e rXX7_inodesHold_10 s m args below meth c H locs 0 0 (MQ below (va_Qi (fun r u => (r = o.1 ∧ u = o.2) ∧ (o.1 = 0 ∨ o.1 = 1)) (gw_B (kD K) vwCl (tyX K) (wX K) A) A) args s rXX7_inodesHold_10.cells rXX7_inodesHold_10.slots A) (F0 m 83 ls []) := by
  have hx := F.1
  have hb := F.2.1
  have hml := F.2.2.2.1
  have hown := F.2.2.2.2.1
  have hts := F.2.2.2.2.2.1
  have hG : ∀ x ∈ gT, x.before args s = true := fun x h => hts x (List.mem_cons_of_mem _ h)
  unfold fXX7_inodesHold_10_83 at hf
  refine lv_iinc (v := (x1 + (1 : Int32))) (lv' := [(1, .int (x1 + (1 : Int32))), (0, .ref (ka K 10))]) hx hb dX7_inodesHold_83 hl (k := 1) rfl rfl (by decide) rfl (fun ls hl => ?_)
  refine lv_goto (tgt := 2) hx hb dX7_inodesHold_86 (by decide) ?_
  exact hk2 _ _ hf _ _ _ (lv_sub hl [1, 0] rfl) hW
set_option maxHeartbeats 4000000 in
set_option maxRecDepth 100000 in
theorem wXX7_inodesHold_10_49 {p : Program} {l : Launch} {e : Env} {s : State} {m : MethodId} {args : Array Value} {below : List Frame} {meth : Method} {c : Code} {A : Nat → Prop} {K : KX} (F : fx_ p s m args meth c cX7_inodesHold 4 (some .boolean) RX7 wsX7_inodesHold) {k2 : (Int32 × XS) → Option (Int32 × XS)} (hk2 : ∀ t o, k2 t = some o → PXX7_inodesHold_10_2 p l e s m args below meth c A K t o) (x1 : Int32) (x2 : Int32) (y0 : Int32) (σ : XS) (o : (Int32 × XS)) (hf : fXX7_inodesHold_10_49 (kn K) k2 x1 x2 y0 σ = some o) (H : Heap) (locs : List Loc) (ls : Array Slot) (hl : lv_has ls 4 [(0, .ref (ka K 10)), (1, .int x1), (2, .int x2)]) (hW : gw_ (kD K) vwCl (tyX K) (wX K) A s σ H locs) : W p l e rXX7_inodesHold_10 s m args below meth c H locs 0 0 (MQ below (va_Qi (fun r u => (r = o.1 ∧ u = o.2) ∧ (o.1 = 0 ∨ o.1 = 1)) (gw_B (kD K) vwCl (tyX K) (wX K) A) A) args s rXX7_inodesHold_10.cells rXX7_inodesHold_10.slots A) (F0 m 49 ls [.int y0]) := by
  have hx := F.1
  have hb := F.2.1
  have hml := F.2.2.2.1
  have hown := F.2.2.2.2.1
  have hts := F.2.2.2.2.2.1
  have hG : ∀ x ∈ gT, x.before args s = true := fun x h => hts x (List.mem_cons_of_mem _ h)
  unfold fXX7_inodesHold_10_49 at hf
  refine lv_istore_n (lv' := [(3, .int y0), (0, .ref (ka K 10)), (1, .int x1), (2, .int x2)]) hx hb dX7_inodesHold_49 rfl hl (by decide) rfl (fun ls hl => ?_)
  refine lv_iload_n hx hb dX7_inodesHold_50 rfl (lv_at hl 0 rfl) ?_
  refine lv_if_eq (tgt := 65) hx hb dX7_inodesHold_51 (by decide) (fun c9 => ?_) (fun c9 => ?_)
  · replace hf := (if_pos c9).symm.trans hf
    refine lv_aload_n hx hb dX7_inodesHold_65 rfl (lv_at hl 1 rfl) ?_
    refine gw_get (v := .ref (ka K 1)) F inc_X7 hW 10 7 0 (aX_10 K σ) rfl (by decide) (hG _ q_1_170) (fun _ h9 => h9) rfl dX7_inodesHold_66 ?_
    refine lv_iload_n hx hb dX7_inodesHold_69 rfl (lv_at hl 3 rfl) ?_
    refine lv_iload_n hx hb dX7_inodesHold_70 rfl (lv_at hl 3 rfl) ?_
    refine lv_sipush (v := (128 : Int32)) hx hb dX7_inodesHold_71 (by decide) ?_
    refine lv_iadd hx hb dX7_inodesHold_74 ?_
    obtain ⟨o10, h11, hf⟩ := gw_bind hf
    refine gw_Vz (As := [.int x2, .int (x2 + (128 : Int32))]) (mc' := 0) (ms' := 0) F hW (mXX1_isZero_1 h11) (cwV 2 hts (gT_V q_2_122 q_2_123 q_2_124 q_1_3 q_2_125) rfl rfl rfl hdX1_isZero ⟨Nat.le_of_ble_eq_true rfl, Nat.le_of_ble_eq_true rfl⟩) 1 1 (aX_1 K σ) rfl rfl hl.1 rfl (Nat.le_of_ble_eq_true rfl) dX7_inodesHold_75 ⟨Nat.le_of_ble_eq_true rfl, Nat.le_of_ble_eq_true rfl⟩ rfl rfl (fun H locs z12 hW => ?_)
    refine lv_if_ne (tgt := 83) hx hb dX7_inodesHold_78 (by decide) (fun c13 => ?_) (fun c13 => ?_)
    · replace hf := (if_neg c13).symm.trans hf
      exact wXX7_inodesHold_10_83 F hk2 x1 _ _ hf _ _ _ (lv_sub hl [1, 2] rfl) hW
    · replace hf := (if_pos c13).symm.trans hf
      refine lv_iconst (v := (0 : Int32)) hx hb dX7_inodesHold_81 (by decide) ?_
      exact gw_retz F hW hf (Or.inl rfl) dX7_inodesHold_82
  · replace hf := (if_neg c9).symm.trans hf
    refine lv_aload_n hx hb dX7_inodesHold_54 rfl (lv_at hl 1 rfl) ?_
    refine lv_iload_n hx hb dX7_inodesHold_55 rfl (lv_at hl 3 rfl) ?_
    obtain ⟨o14, h15, hf⟩ := gw_bind hf
    refine gw_Vz (As := [.int x2]) (mc' := 0) (ms' := 0) F hW (mXX7_inodeHolds_10 h15) (cwV 1 hts (gT_V q_2_105 q_2_107 qp_3 q_1_9 q_2_108) rfl rfl rfl hdX7_inodeHolds ⟨Nat.le_of_ble_eq_true rfl, Nat.le_of_ble_eq_true rfl⟩) 10 7 (aX_10 K σ) rfl rfl hl.1 rfl (Nat.le_of_ble_eq_true rfl) dX7_inodesHold_56 ⟨Nat.le_of_ble_eq_true rfl, Nat.le_of_ble_eq_true rfl⟩ rfl rfl (fun H locs z16 hW => ?_)
    refine lv_if_ne (tgt := 83) hx hb dX7_inodesHold_59 (by decide) (fun c17 => ?_) (fun c17 => ?_)
    · replace hf := (if_neg c17).symm.trans hf
      exact wXX7_inodesHold_10_83 F hk2 x1 _ _ hf _ _ _ (lv_sub hl [1, 2] rfl) hW
    · replace hf := (if_pos c17).symm.trans hf
      refine lv_goto (tgt := 81) hx hb dX7_inodesHold_62 (by decide) ?_
      refine lv_iconst (v := (0 : Int32)) hx hb dX7_inodesHold_81 (by decide) ?_
      exact gw_retz F hW hf (Or.inl rfl) dX7_inodesHold_82
set_option maxHeartbeats 4000000 in
set_option maxRecDepth 100000 in
theorem wXX7_inodesHold_10_44 {p : Program} {l : Launch} {e : Env} {s : State} {m : MethodId} {args : Array Value} {below : List Frame} {meth : Method} {c : Code} {A : Nat → Prop} {K : KX} (F : fx_ p s m args meth c cX7_inodesHold 4 (some .boolean) RX7 wsX7_inodesHold) {k2 : (Int32 × XS) → Option (Int32 × XS)} (hk2 : ∀ t o, k2 t = some o → PXX7_inodesHold_10_2 p l e s m args below meth c A K t o) (x1 : Int32) (x2 : Int32) (σ : XS) (o : (Int32 × XS)) (hf : fXX7_inodesHold_10_44 (kn K) k2 x1 x2 σ = some o) (H : Heap) (locs : List Loc) (ls : Array Slot) (hl : lv_has ls 4 [(0, .ref (ka K 10)), (1, .int x1), (2, .int x2)]) (hW : gw_ (kD K) vwCl (tyX K) (wX K) A s σ H locs) : W p l e rXX7_inodesHold_10 s m args below meth c H locs 0 0 (MQ below (va_Qi (fun r u => (r = o.1 ∧ u = o.2) ∧ (o.1 = 0 ∨ o.1 = 1)) (gw_B (kD K) vwCl (tyX K) (wX K) A) A) args s rXX7_inodesHold_10.cells rXX7_inodesHold_10.slots A) (F0 m 44 ls []) := by
  have hx := F.1
  have hb := F.2.1
  have hml := F.2.2.2.1
  have hown := F.2.2.2.2.1
  have hts := F.2.2.2.2.2.1
  have hG : ∀ x ∈ gT, x.before args s = true := fun x h => hts x (List.mem_cons_of_mem _ h)
  unfold fXX7_inodesHold_10_44 at hf
  refine lv_iconst (v := (1 : Int32)) hx hb dX7_inodesHold_44 (by decide) ?_
  refine lv_goto (tgt := 49) hx hb dX7_inodesHold_45 (by decide) ?_
  exact wXX7_inodesHold_10_49 F hk2 x1 x2 (1 : Int32) _ _ hf _ _ _ (lv_sub hl [0, 1, 2] rfl) hW
set_option maxHeartbeats 4000000 in
set_option maxRecDepth 100000 in
theorem wXX7_inodesHold_10_48 {p : Program} {l : Launch} {e : Env} {s : State} {m : MethodId} {args : Array Value} {below : List Frame} {meth : Method} {c : Code} {A : Nat → Prop} {K : KX} (F : fx_ p s m args meth c cX7_inodesHold 4 (some .boolean) RX7 wsX7_inodesHold) {k2 : (Int32 × XS) → Option (Int32 × XS)} (hk2 : ∀ t o, k2 t = some o → PXX7_inodesHold_10_2 p l e s m args below meth c A K t o) (x1 : Int32) (x2 : Int32) (σ : XS) (o : (Int32 × XS)) (hf : fXX7_inodesHold_10_48 (kn K) k2 x1 x2 σ = some o) (H : Heap) (locs : List Loc) (ls : Array Slot) (hl : lv_has ls 4 [(0, .ref (ka K 10)), (1, .int x1), (2, .int x2)]) (hW : gw_ (kD K) vwCl (tyX K) (wX K) A s σ H locs) : W p l e rXX7_inodesHold_10 s m args below meth c H locs 0 0 (MQ below (va_Qi (fun r u => (r = o.1 ∧ u = o.2) ∧ (o.1 = 0 ∨ o.1 = 1)) (gw_B (kD K) vwCl (tyX K) (wX K) A) A) args s rXX7_inodesHold_10.cells rXX7_inodesHold_10.slots A) (F0 m 48 ls []) := by
  have hx := F.1
  have hb := F.2.1
  have hml := F.2.2.2.1
  have hown := F.2.2.2.2.1
  have hts := F.2.2.2.2.2.1
  have hG : ∀ x ∈ gT, x.before args s = true := fun x h => hts x (List.mem_cons_of_mem _ h)
  unfold fXX7_inodesHold_10_48 at hf
  refine lv_iconst (v := (0 : Int32)) hx hb dX7_inodesHold_48 (by decide) ?_
  exact wXX7_inodesHold_10_49 F hk2 x1 x2 (0 : Int32) _ _ hf _ _ _ (lv_sub hl [0, 1, 2] rfl) hW
set_option maxHeartbeats 4000000 in
set_option maxRecDepth 100000 in
theorem wXX7_inodesHold_10_2 {p : Program} {l : Launch} {e : Env} {s : State} {m : MethodId} {args : Array Value} {below : List Frame} {meth : Method} {c : Code} {A : Nat → Prop} {K : KX} (F : fx_ p s m args meth c cX7_inodesHold 4 (some .boolean) RX7 wsX7_inodesHold) {k2 : (Int32 × XS) → Option (Int32 × XS)} (hk2 : ∀ t o, k2 t = some o → PXX7_inodesHold_10_2 p l e s m args below meth c A K t o) (x1 : Int32) (σ : XS) (o : (Int32 × XS)) (hf : fXX7_inodesHold_10_2 (kn K) k2 x1 σ = some o) (H : Heap) (locs : List Loc) (ls : Array Slot) (hl : lv_has ls 4 [(0, .ref (ka K 10)), (1, .int x1)]) (hW : gw_ (kD K) vwCl (tyX K) (wX K) A s σ H locs) : W p l e rXX7_inodesHold_10 s m args below meth c H locs 0 0 (MQ below (va_Qi (fun r u => (r = o.1 ∧ u = o.2) ∧ (o.1 = 0 ∨ o.1 = 1)) (gw_B (kD K) vwCl (tyX K) (wX K) A) A) args s rXX7_inodesHold_10.cells rXX7_inodesHold_10.slots A) (F0 m 2 ls []) := by
  have hx := F.1
  have hb := F.2.1
  have hml := F.2.2.2.1
  have hown := F.2.2.2.2.1
  have hts := F.2.2.2.2.2.1
  have hG : ∀ x ∈ gT, x.before args s = true := fun x h => hts x (List.mem_cons_of_mem _ h)
  unfold fXX7_inodesHold_10_2 at hf
  refine lv_iload_n hx hb dX7_inodesHold_2 rfl (lv_at hl 1 rfl) ?_
  refine lv_aload_n hx hb dX7_inodesHold_3 rfl (lv_at hl 0 rfl) ?_
  refine gw_get (v := .ref (ka K 3)) F inc_X7 hW 10 7 1 (aX_10 K σ) rfl (by decide) (hG _ q_1_171) (fun _ h9 => h9) rfl dX7_inodesHold_4 ?_
  obtain ⟨o1, h2, hf⟩ := gw_bind hf
  refine gw_Vi (As := []) (mc' := 0) (ms' := 0) F hW (mXX2_inodes_3 h2) (cwV 0 hts (gT_V q_2_96 q_2_97 q_2_98 q_1_4 q_2_99) rfl rfl rfl hdX2_inodes ⟨Nat.le_of_ble_eq_true rfl, Nat.le_of_ble_eq_true rfl⟩) 3 2 (aX_3 K σ) rfl rfl hl.1 rfl (Nat.le_of_ble_eq_true rfl) dX7_inodesHold_7 ⟨Nat.le_of_ble_eq_true rfl, Nat.le_of_ble_eq_true rfl⟩ rfl rfl (fun H locs hW => ?_)
  refine lv_icmp_gt (tgt := 89) hx hb dX7_inodesHold_10 (by decide) (fun c4 => ?_) (fun c4 => ?_)
  · replace hf := (if_pos c4).symm.trans hf
    refine lv_iconst (v := (1 : Int32)) hx hb dX7_inodesHold_89 (by decide) ?_
    exact gw_retz F hW hf (Or.inr rfl) dX7_inodesHold_90
  · replace hf := (if_neg c4).symm.trans hf
    refine lv_aload_n hx hb dX7_inodesHold_13 rfl (lv_at hl 0 rfl) ?_
    refine gw_get (v := .ref (ka K 3)) F inc_X7 hW 10 7 1 (aX_10 K o1.2) rfl (by decide) (hG _ q_1_171) (fun _ h9 => h9) rfl dX7_inodesHold_14 ?_
    refine lv_iload_n hx hb dX7_inodesHold_17 rfl (lv_at hl 1 rfl) ?_
    obtain ⟨o5, h6, hf⟩ := gw_bind hf
    refine gw_Vi (As := [.int x1]) (mc' := 0) (ms' := 0) F hW (mXX2_inodeAt_3 h6) (cwV 1 hts (gT_V q_2_100 q_2_101 q_2_102 q_1_4 q_2_103) rfl rfl rfl hdX2_inodeAt ⟨Nat.le_of_ble_eq_true rfl, Nat.le_of_ble_eq_true rfl⟩) 3 2 (aX_3 K o1.2) rfl rfl hl.1 rfl (Nat.le_of_ble_eq_true rfl) dX7_inodesHold_18 ⟨Nat.le_of_ble_eq_true rfl, Nat.le_of_ble_eq_true rfl⟩ rfl rfl (fun H locs hW => ?_)
    refine lv_istore_n (lv' := [(2, .int o5.1), (0, .ref (ka K 10)), (1, .int x1)]) hx hb dX7_inodesHold_21 rfl hl (by decide) rfl (fun ls hl => ?_)
    refine lv_iload_n hx hb dX7_inodesHold_22 rfl (lv_at hl 2 rfl) ?_
    refine lv_iconst (v := (2 : Int32)) hx hb dX7_inodesHold_23 (by decide) ?_
    refine lv_icmp_eq (tgt := 44) hx hb dX7_inodesHold_24 (by decide) (fun c8 => ?_) (fun c8 => ?_)
    · replace hf := (if_pos c8).symm.trans hf
      exact wXX7_inodesHold_10_44 F hk2 x1 o5.1 _ _ hf _ _ _ (lv_sub hl [1, 2, 0] rfl) hW
    · replace hf := (if_neg c8).symm.trans hf
      refine lv_iload_n hx hb dX7_inodesHold_27 rfl (lv_at hl 2 rfl) ?_
      refine lv_bipush (v := (11 : Int32)) hx hb dX7_inodesHold_28 (by decide) ?_
      refine lv_icmp_le (tgt := 48) hx hb dX7_inodesHold_30 (by decide) (fun c18 => ?_) (fun c18 => ?_)
      · replace hf := (if_pos c18).symm.trans hf
        exact wXX7_inodesHold_10_48 F hk2 x1 o5.1 _ _ hf _ _ _ (lv_sub hl [1, 2, 0] rfl) hW
      · replace hf := (if_neg c18).symm.trans hf
        refine lv_aload_n hx hb dX7_inodesHold_33 rfl (lv_at hl 1 rfl) ?_
        refine gw_get (v := .ref (ka K 5)) F inc_X7 hW 10 7 3 (aX_10 K o5.2) rfl (by decide) (hG _ q_1_173) (fun _ h9 => h9) rfl dX7_inodesHold_34 ?_
        refine lv_iload_n hx hb dX7_inodesHold_37 rfl (lv_at hl 2 rfl) ?_
        obtain ⟨o19, h20, hf⟩ := gw_bind hf
        refine gw_Vz (As := [.int x1]) (mc' := 0) (ms' := 0) F hW (mXX3_isUsed_5 h20) (cwV 1 hts (gT_V q_2_104 q_2_48 q_2_49 q_1_5 q_2_50) rfl rfl rfl hdX3_isUsed ⟨Nat.le_of_ble_eq_true rfl, Nat.le_of_ble_eq_true rfl⟩) 5 3 (aX_5 K o5.2) rfl rfl hl.1 rfl (Nat.le_of_ble_eq_true rfl) dX7_inodesHold_38 ⟨Nat.le_of_ble_eq_true rfl, Nat.le_of_ble_eq_true rfl⟩ rfl rfl (fun H locs z21 hW => ?_)
        refine lv_if_eq (tgt := 48) hx hb dX7_inodesHold_41 (by decide) (fun c22 => ?_) (fun c22 => ?_)
        · replace hf := (if_pos c22).symm.trans hf
          exact wXX7_inodesHold_10_48 F hk2 x1 o5.1 _ _ hf _ _ _ (lv_sub hl [1, 2, 0] rfl) hW
        · replace hf := (if_neg c22).symm.trans hf
          exact wXX7_inodesHold_10_44 F hk2 x1 o5.1 _ _ hf _ _ _ (lv_sub hl [1, 2, 0] rfl) hW
set_option maxHeartbeats 4000000 in
set_option maxRecDepth 100000 in
theorem wXX7_inodesHold_10_0 {p : Program} {l : Launch} {e : Env} {s : State} {m : MethodId} {args : Array Value} {below : List Frame} {meth : Method} {c : Code} {A : Nat → Prop} {K : KX} (F : fx_ p s m args meth c cX7_inodesHold 4 (some .boolean) RX7 wsX7_inodesHold) (σ : XS) (o : (Int32 × XS)) (hf : fXX7_inodesHold_10_0 (kn K) σ = some o) (H : Heap) (locs : List Loc) (ls : Array Slot) (hl : lv_has ls 4 [(0, .ref (ka K 10))]) (hW : gw_ (kD K) vwCl (tyX K) (wX K) A s σ H locs) : W p l e rXX7_inodesHold_10 s m args below meth c H locs 0 0 (MQ below (va_Qi (fun r u => (r = o.1 ∧ u = o.2) ∧ (o.1 = 0 ∨ o.1 = 1)) (gw_B (kD K) vwCl (tyX K) (wX K) A) A) args s rXX7_inodesHold_10.cells rXX7_inodesHold_10.slots A) (F0 m 0 ls []) := by
  have hx := F.1
  have hb := F.2.1
  have hml := F.2.2.2.1
  have hown := F.2.2.2.2.1
  have hts := F.2.2.2.2.2.1
  have hG : ∀ x ∈ gT, x.before args s = true := fun x h => hts x (List.mem_cons_of_mem _ h)
  unfold fXX7_inodesHold_10_0 at hf
  refine lv_iconst (v := (1 : Int32)) hx hb dX7_inodesHold_0 (by decide) ?_
  refine lv_istore_n (lv' := [(1, .int (1 : Int32)), (0, .ref (ka K 10))]) hx hb dX7_inodesHold_1 rfl hl (by decide) rfl (fun ls hl => ?_)
  exact lfix_ind (P := PXX7_inodesHold_10_2 p l e s m args below meth c A K) (fun k2 hk2 t o hf => wXX7_inodesHold_10_2 F hk2 t.1 t.2 o hf) FU _ _ hf _ _ _ (lv_sub hl [1, 0] rfl) hW
set_option maxHeartbeats 4000000 in
set_option maxRecDepth 100000 in
theorem mXX7_inodesHold_10 {l : Launch} {K : KX} {σ : XS} {o : (Int32 × XS)} (hf : fXX7_inodesHold_10 (kn K) σ = some o) : gw_Mz l (kD K) vwCl (tyX K) (wX K) yX7_inodesHold wsX7_inodesHold rXX7_inodesHold_10 [.ref (ka K 10)] σ o := by
  intro sz
  refine gw_body (cc := cX7_inodesHold) (maxL := 4) (yret := some .boolean) (by decide +kernel) rfl ?_ (Nat.le_of_ble_eq_true rfl)
  intro p e s m below meth c F hsz hW ls hl
  exact wXX7_inodesHold_10_0 F σ o hf s.heap [] ls hl hW
abbrev rXX4_isDirectory_6 : Room := { frames := 1, cells := 0, slots := 0, locals := 22 }
set_option maxHeartbeats 4000000 in
set_option maxRecDepth 100000 in
theorem wXX4_isDirectory_6_0 {p : Program} {l : Launch} {e : Env} {s : State} {m : MethodId} {args : Array Value} {below : List Frame} {meth : Method} {c : Code} {A : Nat → Prop} {K : KX} (F : fx_ p s m args meth c cX4_isDirectory 2 (some .boolean) RX4 wsX4_isDirectory) (x1 : Int32) (σ : XS) (o : (Int32 × XS)) (hf : fXX4_isDirectory_6_0 (kn K) x1 σ = some o) (H : Heap) (locs : List Loc) (ls : Array Slot) (hl : lv_has ls 2 [(0, .ref (ka K 6)), (1, .int x1)]) (hW : gw_ (kD K) vwCl (tyX K) (wX K) A s σ H locs) : W p l e rXX4_isDirectory_6 s m args below meth c H locs 0 0 (MQ below (va_Qi (fun r u => (r = o.1 ∧ u = o.2) ∧ (o.1 = 0 ∨ o.1 = 1)) (gw_B (kD K) vwCl (tyX K) (wX K) A) A) args s rXX4_isDirectory_6.cells rXX4_isDirectory_6.slots A) (F0 m 0 ls []) := by
  have hx := F.1
  have hb := F.2.1
  have hml := F.2.2.2.1
  have hown := F.2.2.2.2.1
  have hts := F.2.2.2.2.2.1
  have hG : ∀ x ∈ gT, x.before args s = true := fun x h => hts x (List.mem_cons_of_mem _ h)
  unfold fXX4_isDirectory_6_0 at hf
  refine lv_aload_n hx hb dX4_isDirectory_0 rfl (lv_at hl 0 rfl) ?_
  refine gw_get (v := .ref (ka K 1)) F inc_X4 hW 6 4 0 (aX_6 K σ) rfl (by decide) (hG _ q_1_108) (fun _ h9 => h9) rfl dX4_isDirectory_1 ?_
  refine lv_aload_n hx hb dX4_isDirectory_4 rfl (lv_at hl 0 rfl) ?_
  refine gw_get (v := .ref (ka K 3)) F inc_X4 hW 6 4 1 (aX_6 K σ) rfl (by decide) (hG _ q_1_109) (fun _ h9 => h9) rfl dX4_isDirectory_5 ?_
  refine lv_iload_n hx hb dX4_isDirectory_8 rfl (lv_at hl 1 rfl) ?_
  obtain ⟨o1, h2, hf⟩ := gw_bind hf
  refine gw_Vi (As := [.int x1]) (mc' := 0) (ms' := 0) F hW (mXX2_inodeAt_3 h2) (cwV 1 hts (gT_V q_2_147 q_2_101 q_2_102 q_1_4 q_2_103) rfl rfl rfl hdX2_inodeAt ⟨Nat.le_of_ble_eq_true rfl, Nat.le_of_ble_eq_true rfl⟩) 3 2 (aX_3 K σ) rfl rfl hl.1 rfl (Nat.le_of_ble_eq_true rfl) dX4_isDirectory_9 ⟨Nat.le_of_ble_eq_true rfl, Nat.le_of_ble_eq_true rfl⟩ rfl rfl (fun H locs hW => ?_)
  obtain ⟨o4, h5, hf⟩ := gw_bind hf
  refine gw_Vi (As := [.int o1.1]) (mc' := 0) (ms' := 0) F hW (mXX1_get2_1 h5) (cwV 1 hts (gT_V q_2_148 q_2_110 q_2_111 q_1_3 q_2_112) rfl rfl rfl hdX1_get2 ⟨Nat.le_of_ble_eq_true rfl, Nat.le_of_ble_eq_true rfl⟩) 1 1 (aX_1 K o1.2) rfl rfl hl.1 rfl (Nat.le_of_ble_eq_true rfl) dX4_isDirectory_12 ⟨Nat.le_of_ble_eq_true rfl, Nat.le_of_ble_eq_true rfl⟩ rfl rfl (fun H locs hW => ?_)
  refine lv_sipush (v := (16877 : Int32)) hx hb dX4_isDirectory_15 (by decide) ?_
  refine lv_icmp_ne (tgt := 25) hx hb dX4_isDirectory_18 (by decide) (fun c7 => ?_) (fun c7 => ?_)
  · replace hf := (if_neg c7).symm.trans hf
    refine lv_iconst (v := (0 : Int32)) hx hb dX4_isDirectory_25 (by decide) ?_
    exact gw_retz F hW hf (Or.inl rfl) dX4_isDirectory_26
  · replace hf := (if_pos c7).symm.trans hf
    refine lv_iconst (v := (1 : Int32)) hx hb dX4_isDirectory_21 (by decide) ?_
    refine lv_goto (tgt := 26) hx hb dX4_isDirectory_22 (by decide) ?_
    exact gw_retz F hW hf (Or.inr rfl) dX4_isDirectory_26
set_option maxHeartbeats 4000000 in
set_option maxRecDepth 100000 in
theorem mXX4_isDirectory_6 {l : Launch} {K : KX} {σ : XS} {x1 : Int32} {o : (Int32 × XS)} (hf : fXX4_isDirectory_6 (kn K) x1 σ = some o) : gw_Mz l (kD K) vwCl (tyX K) (wX K) yX4_isDirectory wsX4_isDirectory rXX4_isDirectory_6 [.ref (ka K 6), .int x1] σ o := by
  intro sz
  refine gw_body (cc := cX4_isDirectory) (maxL := 2) (yret := some .boolean) (by decide +kernel) rfl ?_ (Nat.le_of_ble_eq_true rfl)
  intro p e s m below meth c F hsz hW ls hl
  exact wXX4_isDirectory_6_0 F x1 σ o hf s.heap [] ls hl hW
abbrev rXX5_read_7 : Room := { frames := 3, cells := 0, slots := 0, locals := 66 }
def PXX5_read_7_48 (p : Program) (l : Launch) (e : Env) (s : State) (m : MethodId) (args : Array Value) (below : List Frame) (meth : Method) (c : Code) (A : Nat → Prop) (K : KX) (t : (Int32 × Int32 × Int32 × Int32 × Int32 × XS)) (o : XS) : Prop := ∀ (H : Heap) (locs : List Loc) (ls : Array Slot), lv_has ls 6 [(0, .ref (ka K 7)), (1, .int t.1), (2, .int t.2.1), (3, .int t.2.2.1), (4, .int t.2.2.2.1), (5, .int t.2.2.2.2.1)] → gw_ (kD K) vwCl (tyX K) (wX K) A s t.2.2.2.2.2 H locs → W p l e rXX5_read_7 s m args below meth c H locs 0 0 (MQ below (gw_Qv (kD K) vwCl (tyX K) (wX K) A o) args s rXX5_read_7.cells rXX5_read_7.slots A) (F0 m 48 ls [])
def PXX5_read_7_25 (p : Program) (l : Launch) (e : Env) (s : State) (m : MethodId) (args : Array Value) (below : List Frame) (meth : Method) (c : Code) (A : Nat → Prop) (K : KX) (t : (Int32 × Int32 × Int32 × XS)) (o : XS) : Prop := ∀ (H : Heap) (locs : List Loc) (ls : Array Slot), lv_has ls 6 [(0, .ref (ka K 7)), (1, .int t.1), (2, .int t.2.1), (3, .int t.2.2.1)] → gw_ (kD K) vwCl (tyX K) (wX K) A s t.2.2.2 H locs → W p l e rXX5_read_7 s m args below meth c H locs 0 0 (MQ below (gw_Qv (kD K) vwCl (tyX K) (wX K) A o) args s rXX5_read_7.cells rXX5_read_7.slots A) (F0 m 25 ls [])
set_option maxHeartbeats 4000000 in
set_option maxRecDepth 100000 in
theorem wXX5_read_7_119 {p : Program} {l : Launch} {e : Env} {s : State} {m : MethodId} {args : Array Value} {below : List Frame} {meth : Method} {c : Code} {A : Nat → Prop} {K : KX} (F : fx_ p s m args meth c cX5_read 6 none RX5 wsX5_read) {k25 : (Int32 × Int32 × Int32 × XS) → Option XS} (hk25 : ∀ t o, k25 t = some o → PXX5_read_7_25 p l e s m args below meth c A K t o) (x1 : Int32) (x2 : Int32) (x3 : Int32) (σ : XS) (o : XS) (hf : fXX5_read_7_119 (kn K) k25 x1 x2 x3 σ = some o) (H : Heap) (locs : List Loc) (ls : Array Slot) (hl : lv_has ls 6 [(0, .ref (ka K 7)), (1, .int x1), (2, .int x2), (3, .int x3)]) (hW : gw_ (kD K) vwCl (tyX K) (wX K) A s σ H locs) : W p l e rXX5_read_7 s m args below meth c H locs 0 0 (MQ below (gw_Qv (kD K) vwCl (tyX K) (wX K) A o) args s rXX5_read_7.cells rXX5_read_7.slots A) (F0 m 119 ls []) := by
  have hx := F.1
  have hb := F.2.1
  have hml := F.2.2.2.1
  have hown := F.2.2.2.2.1
  have hts := F.2.2.2.2.2.1
  have hG : ∀ x ∈ gT, x.before args s = true := fun x h => hts x (List.mem_cons_of_mem _ h)
  unfold fXX5_read_7_119 at hf
  refine lv_iinc (v := (x3 + (1 : Int32))) (lv' := [(3, .int (x3 + (1 : Int32))), (0, .ref (ka K 7)), (1, .int x1), (2, .int x2)]) hx hb dX5_read_119 hl (k := 3) rfl rfl (by decide) rfl (fun ls hl => ?_)
  refine lv_goto (tgt := 25) hx hb dX5_read_122 (by decide) ?_
  exact hk25 _ _ hf _ _ _ (lv_sub hl [1, 2, 3, 0] rfl) hW
set_option maxHeartbeats 4000000 in
set_option maxRecDepth 100000 in
theorem wXX5_read_7_48 {p : Program} {l : Launch} {e : Env} {s : State} {m : MethodId} {args : Array Value} {below : List Frame} {meth : Method} {c : Code} {A : Nat → Prop} {K : KX} (F : fx_ p s m args meth c cX5_read 6 none RX5 wsX5_read) {k25 : (Int32 × Int32 × Int32 × XS) → Option XS} (hk25 : ∀ t o, k25 t = some o → PXX5_read_7_25 p l e s m args below meth c A K t o) {k48 : (Int32 × Int32 × Int32 × Int32 × Int32 × XS) → Option XS} (hk48 : ∀ t o, k48 t = some o → PXX5_read_7_48 p l e s m args below meth c A K t o) (x1 : Int32) (x2 : Int32) (x3 : Int32) (x4 : Int32) (x5 : Int32) (σ : XS) (o : XS) (hf : fXX5_read_7_48 (kn K) k25 k48 x1 x2 x3 x4 x5 σ = some o) (H : Heap) (locs : List Loc) (ls : Array Slot) (hl : lv_has ls 6 [(0, .ref (ka K 7)), (1, .int x1), (2, .int x2), (3, .int x3), (4, .int x4), (5, .int x5)]) (hW : gw_ (kD K) vwCl (tyX K) (wX K) A s σ H locs) : W p l e rXX5_read_7 s m args below meth c H locs 0 0 (MQ below (gw_Qv (kD K) vwCl (tyX K) (wX K) A o) args s rXX5_read_7.cells rXX5_read_7.slots A) (F0 m 48 ls []) := by
  have hx := F.1
  have hb := F.2.1
  have hml := F.2.2.2.1
  have hown := F.2.2.2.2.1
  have hts := F.2.2.2.2.2.1
  have hG : ∀ x ∈ gT, x.before args s = true := fun x h => hts x (List.mem_cons_of_mem _ h)
  unfold fXX5_read_7_48 at hf
  refine lv_iload hx hb dX5_read_48 (lv_at hl 5 rfl) ?_
  refine lv_sipush (v := (1024 : Int32)) hx hb dX5_read_50 (by decide) ?_
  refine lv_icmp_ge (tgt := 119) hx hb dX5_read_53 (by decide) (fun c11 => ?_) (fun c11 => ?_)
  · replace hf := (if_pos c11).symm.trans hf
    exact wXX5_read_7_119 F hk25 x1 x2 x3 _ _ hf _ _ _ (lv_sub hl [0, 1, 2, 3] rfl) hW
  · replace hf := (if_neg c11).symm.trans hf
    refine lv_aload_n hx hb dX5_read_56 rfl (lv_at hl 0 rfl) ?_
    refine gw_get (v := .int (σ.1 7)) F inc_X5 hW 7 5 3 (aX_7 K σ) rfl (by decide) (hG _ q_1_127) (fun _ h9 => h9) rfl dX5_read_57 ?_
    refine lv_aload_n hx hb dX5_read_60 rfl (lv_at hl 0 rfl) ?_
    refine gw_get (v := .ref (ka K 8)) F inc_X5 hW 7 5 2 (aX_7 K σ) rfl (by decide) (hG _ q_1_126) (fun _ h9 => h9) rfl dX5_read_61 ?_
    refine gw_alen F hW 8 1 (aX_8 K σ) rfl dX5_read_64 ?_
    refine lv_icmp_ge (tgt := 119) hx hb dX5_read_65 (by decide) (fun c12 => ?_) (fun c12 => ?_)
    · replace hf := (if_pos c12).symm.trans hf
      exact wXX5_read_7_119 F hk25 x1 x2 x3 _ _ hf _ _ _ (lv_sub hl [0, 1, 2, 3] rfl) hW
    · replace hf := (if_neg c12).symm.trans hf
      refine lv_aload_n hx hb dX5_read_68 rfl (lv_at hl 0 rfl) ?_
      refine gw_get (v := .ref (ka K 8)) F inc_X5 hW 7 5 2 (aX_7 K σ) rfl (by decide) (hG _ q_1_126) (fun _ h9 => h9) rfl dX5_read_69 ?_
      refine lv_aload_n hx hb dX5_read_72 rfl (lv_at hl 0 rfl) ?_
      refine gw_get (v := .int (σ.1 7)) F inc_X5 hW 7 5 3 (aX_7 K σ) rfl (by decide) (hG _ q_1_127) (fun _ h9 => h9) rfl dX5_read_73 ?_
      refine lv_iload hx hb dX5_read_76 (lv_at hl 4 rfl) ?_
      refine lv_iload hx hb dX5_read_78 (lv_at hl 5 rfl) ?_
      refine lv_iadd hx hb dX5_read_80 ?_
      rcases Decidable.em ((σ.1 7) < 0 ∨ 2578 ≤ (σ.1 7).toNatClampNeg) with c13 | c13
      · replace hf := (if_pos c13).symm.trans hf
        exact absurd hf (by simp)
      · replace hf := (if_neg c13).symm.trans hf
        refine gw_iast (σ' := (stA σ 1 (σ.1 7).toNatClampNeg (x4 + x5))) F hW 8 1 (aX_8 K σ) rfl c13 dX5_read_81 (sAX_1 _ _ _) (fun H locs hW => ?_)
        refine lv_aload_n hx hb dX5_read_82 rfl (lv_at hl 0 rfl) ?_
        refine lv_dup hx hb dX5_read_83 rfl ?_
        refine gw_get (v := .int (σ.1 7)) F inc_X5 hW 7 5 3 (aX_7 K (stA σ 1 (σ.1 7).toNatClampNeg (x4 + x5))) rfl (by decide) (hG _ q_1_127) (fun _ h9 => h9) rfl dX5_read_84 ?_
        refine lv_iconst (v := (1 : Int32)) hx hb dX5_read_87 (by decide) ?_
        refine lv_iadd hx hb dX5_read_88 ?_
        refine gw_put (σ' := (stS (stA σ 1 (σ.1 7).toNatClampNeg (x4 + x5)) 7 ((σ.1 7) + (1 : Int32)))) (ty := .int) F inc_X5 tyX5 tyX5_ok nmX5 hW 7 5 3 (aX_7 K (stA σ 1 (σ.1 7).toNatClampNeg (x4 + x5))) rfl (by decide) (hG _ q_1_127) (fun _ h9 => h9) rfl (by decide +kernel) rfl rfl (Nat.le_of_ble_eq_true rfl) dX5_read_89 (sSX_7 _ _ _) (fun H locs hW => ?_)
        refine lv_iload hx hb dX5_read_92 (lv_at hl 5 rfl) ?_
        refine lv_bipush (v := (8 : Int32)) hx hb dX5_read_94 (by decide) ?_
        refine lv_aload_n hx hb dX5_read_96 rfl (lv_at hl 0 rfl) ?_
        refine gw_get (v := .ref (ka K 1)) F inc_X5 hW 7 5 0 (aX_7 K (stS (stA σ 1 (σ.1 7).toNatClampNeg (x4 + x5)) 7 ((σ.1 7) + (1 : Int32)))) rfl (by decide) (hG _ q_1_124) (fun _ h9 => h9) rfl dX5_read_97 ?_
        refine lv_iload hx hb dX5_read_100 (lv_at hl 4 rfl) ?_
        refine lv_iload hx hb dX5_read_102 (lv_at hl 5 rfl) ?_
        refine lv_iadd hx hb dX5_read_104 ?_
        refine lv_iconst (v := (4 : Int32)) hx hb dX5_read_105 (by decide) ?_
        refine lv_iadd hx hb dX5_read_106 ?_
        obtain ⟨o14, h15, hf⟩ := gw_bind hf
        refine gw_Vi (As := [.int ((x4 + x5) + (4 : Int32))]) (mc' := 0) (ms' := 0) F hW (mXX1_get2_1 h15) (cwV 1 hts (gT_V q_2_168 q_2_110 q_2_111 q_1_3 q_2_112) rfl rfl rfl hdX1_get2 ⟨Nat.le_of_ble_eq_true rfl, Nat.le_of_ble_eq_true rfl⟩) 1 1 (aX_1 K (stS (stA σ 1 (σ.1 7).toNatClampNeg (x4 + x5)) 7 ((σ.1 7) + (1 : Int32)))) rfl rfl hl.1 rfl (Nat.le_of_ble_eq_true rfl) dX5_read_107 ⟨Nat.le_of_ble_eq_true rfl, Nat.le_of_ble_eq_true rfl⟩ rfl rfl (fun H locs hW => ?_)
        refine va_mmax (own := RX5) hx hb (hml.trans hl.1.symm) hown (hG _ q_2_169) (hG _ q_1_44) (hG _ q_1_2) (hG _ q_1_45) (Nat.le_of_ble_eq_true rfl) (Nat.le_of_ble_eq_true rfl) (Nat.le_of_ble_eq_true rfl) (Nat.le_of_ble_eq_true rfl) dX5_read_110 ?_
        refine lv_iadd hx hb dX5_read_113 ?_
        refine lv_istore (lv' := [(5, .int (x5 + (if (8 : Int32) < o14.1 then o14.1 else (8 : Int32)))), (0, .ref (ka K 7)), (1, .int x1), (2, .int x2), (3, .int x3), (4, .int x4)]) hx hb dX5_read_114 hl (by decide) rfl (fun ls hl => ?_)
        refine lv_goto (tgt := 48) hx hb dX5_read_116 (by decide) ?_
        exact hk48 _ _ hf _ _ _ (lv_sub hl [1, 2, 3, 4, 5, 0] rfl) hW
set_option maxHeartbeats 4000000 in
set_option maxRecDepth 100000 in
theorem wXX5_read_7_25 {p : Program} {l : Launch} {e : Env} {s : State} {m : MethodId} {args : Array Value} {below : List Frame} {meth : Method} {c : Code} {A : Nat → Prop} {K : KX} (F : fx_ p s m args meth c cX5_read 6 none RX5 wsX5_read) {k25 : (Int32 × Int32 × Int32 × XS) → Option XS} (hk25 : ∀ t o, k25 t = some o → PXX5_read_7_25 p l e s m args below meth c A K t o) (x1 : Int32) (x2 : Int32) (x3 : Int32) (σ : XS) (o : XS) (hf : fXX5_read_7_25 (kn K) k25 x1 x2 x3 σ = some o) (H : Heap) (locs : List Loc) (ls : Array Slot) (hl : lv_has ls 6 [(0, .ref (ka K 7)), (1, .int x1), (2, .int x2), (3, .int x3)]) (hW : gw_ (kD K) vwCl (tyX K) (wX K) A s σ H locs) : W p l e rXX5_read_7 s m args below meth c H locs 0 0 (MQ below (gw_Qv (kD K) vwCl (tyX K) (wX K) A o) args s rXX5_read_7.cells rXX5_read_7.slots A) (F0 m 25 ls []) := by
  have hx := F.1
  have hb := F.2.1
  have hml := F.2.2.2.1
  have hown := F.2.2.2.2.1
  have hts := F.2.2.2.2.2.1
  have hG : ∀ x ∈ gT, x.before args s = true := fun x h => hts x (List.mem_cons_of_mem _ h)
  unfold fXX5_read_7_25 at hf
  refine lv_iload_n hx hb dX5_read_25 rfl (lv_at hl 3 rfl) ?_
  refine lv_iload_n hx hb dX5_read_26 rfl (lv_at hl 2 rfl) ?_
  refine lv_icmp_ge (tgt := 125) hx hb dX5_read_27 (by decide) (fun c7 => ?_) (fun c7 => ?_)
  · replace hf := (if_pos c7).symm.trans hf
    exact gw_retv F hW hf dX5_read_125
  · replace hf := (if_neg c7).symm.trans hf
    refine lv_aload_n hx hb dX5_read_30 rfl (lv_at hl 0 rfl) ?_
    refine gw_get (v := .ref (ka K 6)) F inc_X5 hW 7 5 1 (aX_7 K σ) rfl (by decide) (hG _ q_1_125) (fun _ h9 => h9) rfl dX5_read_31 ?_
    refine lv_iload_n hx hb dX5_read_34 rfl (lv_at hl 1 rfl) ?_
    refine lv_iload_n hx hb dX5_read_35 rfl (lv_at hl 3 rfl) ?_
    obtain ⟨o8, h9, hf⟩ := gw_bind hf
    refine gw_Vi (As := [.int x1, .int x3]) (mc' := 0) (ms' := 0) F hW (mXX4_blockOf_6 h9) (cwV 2 hts (gT_V q_2_160 q_2_161 q_2_162 q_1_6 q_2_163) rfl rfl rfl hdX4_blockOf ⟨Nat.le_of_ble_eq_true rfl, Nat.le_of_ble_eq_true rfl⟩) 6 4 (aX_6 K σ) rfl rfl hl.1 rfl (Nat.le_of_ble_eq_true rfl) dX5_read_36 ⟨Nat.le_of_ble_eq_true rfl, Nat.le_of_ble_eq_true rfl⟩ rfl rfl (fun H locs hW => ?_)
    refine lv_sipush (v := (1024 : Int32)) hx hb dX5_read_39 (by decide) ?_
    refine lv_imul hx hb dX5_read_42 ?_
    refine lv_istore (lv' := [(4, .int (o8.1 * (1024 : Int32))), (0, .ref (ka K 7)), (1, .int x1), (2, .int x2), (3, .int x3)]) hx hb dX5_read_43 hl (by decide) rfl (fun ls hl => ?_)
    refine lv_iconst (v := (0 : Int32)) hx hb dX5_read_45 (by decide) ?_
    refine lv_istore (lv' := [(5, .int (0 : Int32)), (4, .int (o8.1 * (1024 : Int32))), (0, .ref (ka K 7)), (1, .int x1), (2, .int x2), (3, .int x3)]) hx hb dX5_read_46 hl (by decide) rfl (fun ls hl => ?_)
    exact lfix_ind (P := PXX5_read_7_48 p l e s m args below meth c A K) (fun k48 hk48 t o hf => wXX5_read_7_48 F hk25 hk48 t.1 t.2.1 t.2.2.1 t.2.2.2.1 t.2.2.2.2.1 t.2.2.2.2.2 o hf) FU _ _ hf _ _ _ (lv_sub hl [2, 3, 4, 5, 1, 0] rfl) hW
set_option maxHeartbeats 4000000 in
set_option maxRecDepth 100000 in
theorem wXX5_read_7_0 {p : Program} {l : Launch} {e : Env} {s : State} {m : MethodId} {args : Array Value} {below : List Frame} {meth : Method} {c : Code} {A : Nat → Prop} {K : KX} (F : fx_ p s m args meth c cX5_read 6 none RX5 wsX5_read) (x1 : Int32) (σ : XS) (o : XS) (hf : fXX5_read_7_0 (kn K) x1 σ = some o) (H : Heap) (locs : List Loc) (ls : Array Slot) (hl : lv_has ls 6 [(0, .ref (ka K 7)), (1, .int x1)]) (hW : gw_ (kD K) vwCl (tyX K) (wX K) A s σ H locs) : W p l e rXX5_read_7 s m args below meth c H locs 0 0 (MQ below (gw_Qv (kD K) vwCl (tyX K) (wX K) A o) args s rXX5_read_7.cells rXX5_read_7.slots A) (F0 m 0 ls []) := by
  have hx := F.1
  have hb := F.2.1
  have hml := F.2.2.2.1
  have hown := F.2.2.2.2.1
  have hts := F.2.2.2.2.2.1
  have hG : ∀ x ∈ gT, x.before args s = true := fun x h => hts x (List.mem_cons_of_mem _ h)
  unfold fXX5_read_7_0 at hf
  refine lv_aload_n hx hb dX5_read_0 rfl (lv_at hl 0 rfl) ?_
  refine lv_iconst (v := (0 : Int32)) hx hb dX5_read_1 (by decide) ?_
  refine gw_put (σ' := (stS σ 7 (0 : Int32))) (ty := .int) F inc_X5 tyX5 tyX5_ok nmX5 hW 7 5 3 (aX_7 K σ) rfl (by decide) (hG _ q_1_127) (fun _ h9 => h9) rfl (by decide +kernel) rfl rfl (Nat.le_of_ble_eq_true rfl) dX5_read_2 (sSX_7 _ _ _) (fun H locs hW => ?_)
  refine lv_sipush (v := (512 : Int32)) hx hb dX5_read_5 (by decide) ?_
  refine lv_aload_n hx hb dX5_read_8 rfl (lv_at hl 0 rfl) ?_
  refine gw_get (v := .ref (ka K 6)) F inc_X5 hW 7 5 1 (aX_7 K (stS σ 7 (0 : Int32))) rfl (by decide) (hG _ q_1_125) (fun _ h9 => h9) rfl dX5_read_9 ?_
  refine lv_iload_n hx hb dX5_read_12 rfl (lv_at hl 1 rfl) ?_
  obtain ⟨o1, h2, hf⟩ := gw_bind hf
  refine gw_Vi (As := [.int x1]) (mc' := 0) (ms' := 0) F hW (mXX4_size_6 h2) (cwV 1 hts (gT_V q_2_153 q_2_154 q_2_155 q_1_6 q_2_156) rfl rfl rfl hdX4_size ⟨Nat.le_of_ble_eq_true rfl, Nat.le_of_ble_eq_true rfl⟩) 6 4 (aX_6 K (stS σ 7 (0 : Int32))) rfl rfl hl.1 rfl (Nat.le_of_ble_eq_true rfl) dX5_read_13 ⟨Nat.le_of_ble_eq_true rfl, Nat.le_of_ble_eq_true rfl⟩ rfl rfl (fun H locs hW => ?_)
  obtain ⟨o4, h5, hf⟩ := gw_bind hf
  refine gw_Si (As := [.int o1.1]) (mc' := 0) (ms' := 0) F hW (mXX4_blocksFor h5) (va_cwS 1 hts (gT_S q_2_158 q_2_120 q_1_6 q_2_121) rfl rfl rfl hdX4_blocksFor.2 ⟨Nat.le_of_ble_eq_true rfl, Nat.le_of_ble_eq_true rfl⟩) rfl hl.1 rfl (Nat.le_of_ble_eq_true rfl) dX5_read_16 ⟨Nat.le_of_ble_eq_true rfl, Nat.le_of_ble_eq_true rfl⟩ rfl rfl (fun H locs hW => ?_)
  refine va_mmin (own := RX5) hx hb (hml.trans hl.1.symm) hown (hG _ q_2_159) (hG _ q_1_41) (hG _ q_1_2) (hG _ q_1_42) (Nat.le_of_ble_eq_true rfl) (Nat.le_of_ble_eq_true rfl) (Nat.le_of_ble_eq_true rfl) (Nat.le_of_ble_eq_true rfl) dX5_read_19 ?_
  refine lv_istore_n (lv' := [(2, .int (if o4.1 < (512 : Int32) then o4.1 else (512 : Int32))), (0, .ref (ka K 7)), (1, .int x1)]) hx hb dX5_read_22 rfl hl (by decide) rfl (fun ls hl => ?_)
  refine lv_iconst (v := (0 : Int32)) hx hb dX5_read_23 (by decide) ?_
  refine lv_istore_n (lv' := [(3, .int (0 : Int32)), (2, .int (if o4.1 < (512 : Int32) then o4.1 else (512 : Int32))), (0, .ref (ka K 7)), (1, .int x1)]) hx hb dX5_read_24 rfl hl (by decide) rfl (fun ls hl => ?_)
  exact lfix_ind (P := PXX5_read_7_25 p l e s m args below meth c A K) (fun k25 hk25 t o hf => wXX5_read_7_25 F hk25 t.1 t.2.1 t.2.2.1 t.2.2.2 o hf) FU _ _ hf _ _ _ (lv_sub hl [2, 3, 1, 0] rfl) hW
set_option maxHeartbeats 4000000 in
set_option maxRecDepth 100000 in
theorem mXX5_read_7 {l : Launch} {K : KX} {σ : XS} {x1 : Int32} {o : XS} (hf : fXX5_read_7 (kn K) x1 σ = some o) : gw_Mv l (kD K) vwCl (tyX K) (wX K) yX5_read wsX5_read rXX5_read_7 [.ref (ka K 7), .int x1] σ o := by
  intro sz
  refine gw_body (cc := cX5_read) (maxL := 6) (yret := none) (by decide +kernel) rfl ?_ (Nat.le_of_ble_eq_true rfl)
  intro p e s m below meth c F hsz hW ls hl
  exact wXX5_read_7_0 F x1 σ o hf s.heap [] ls hl hW
abbrev rXX5_count_7 : Room := { frames := 0, cells := 0, slots := 0, locals := 0 }
set_option maxHeartbeats 4000000 in
set_option maxRecDepth 100000 in
theorem wXX5_count_7_0 {p : Program} {l : Launch} {e : Env} {s : State} {m : MethodId} {args : Array Value} {below : List Frame} {meth : Method} {c : Code} {A : Nat → Prop} {K : KX} (F : fx_ p s m args meth c cX5_count 1 (some .int) RX5 wsX5_count) (σ : XS) (o : (Int32 × XS)) (hf : fXX5_count_7_0 (kn K) σ = some o) (H : Heap) (locs : List Loc) (ls : Array Slot) (hl : lv_has ls 1 [(0, .ref (ka K 7))]) (hW : gw_ (kD K) vwCl (tyX K) (wX K) A s σ H locs) : W p l e rXX5_count_7 s m args below meth c H locs 0 0 (MQ below (gw_Qi (kD K) vwCl (tyX K) (wX K) A o) args s rXX5_count_7.cells rXX5_count_7.slots A) (F0 m 0 ls []) := by
  have hx := F.1
  have hb := F.2.1
  have hml := F.2.2.2.1
  have hown := F.2.2.2.2.1
  have hts := F.2.2.2.2.2.1
  have hG : ∀ x ∈ gT, x.before args s = true := fun x h => hts x (List.mem_cons_of_mem _ h)
  unfold fXX5_count_7_0 at hf
  refine lv_aload_n hx hb dX5_count_0 rfl (lv_at hl 0 rfl) ?_
  refine gw_get (v := .int (σ.1 7)) F inc_X5 hW 7 5 3 (aX_7 K σ) rfl (by decide) (hG _ q_1_127) (fun _ h9 => h9) rfl dX5_count_1 ?_
  exact gw_reti F hW hf dX5_count_4
set_option maxHeartbeats 4000000 in
set_option maxRecDepth 100000 in
theorem mXX5_count_7 {l : Launch} {K : KX} {σ : XS} {o : (Int32 × XS)} (hf : fXX5_count_7 (kn K) σ = some o) : gw_Mi l (kD K) vwCl (tyX K) (wX K) yX5_count wsX5_count rXX5_count_7 [.ref (ka K 7)] σ o := by
  intro sz
  refine gw_body (cc := cX5_count) (maxL := 1) (yret := some .int) (by decide +kernel) rfl ?_ (Nat.le_of_ble_eq_true rfl)
  intro p e s m below meth c F hsz hW ls hl
  exact wXX5_count_7_0 F σ o hf s.heap [] ls hl hW
abbrev rXX5_entryAt_7 : Room := { frames := 0, cells := 0, slots := 0, locals := 0 }
set_option maxHeartbeats 4000000 in
set_option maxRecDepth 100000 in
theorem wXX5_entryAt_7_0 {p : Program} {l : Launch} {e : Env} {s : State} {m : MethodId} {args : Array Value} {below : List Frame} {meth : Method} {c : Code} {A : Nat → Prop} {K : KX} (F : fx_ p s m args meth c cX5_entryAt 2 (some .int) RX5 wsX5_entryAt) (x1 : Int32) (σ : XS) (o : (Int32 × XS)) (hf : fXX5_entryAt_7_0 (kn K) x1 σ = some o) (H : Heap) (locs : List Loc) (ls : Array Slot) (hl : lv_has ls 2 [(0, .ref (ka K 7)), (1, .int x1)]) (hW : gw_ (kD K) vwCl (tyX K) (wX K) A s σ H locs) : W p l e rXX5_entryAt_7 s m args below meth c H locs 0 0 (MQ below (gw_Qi (kD K) vwCl (tyX K) (wX K) A o) args s rXX5_entryAt_7.cells rXX5_entryAt_7.slots A) (F0 m 0 ls []) := by
  have hx := F.1
  have hb := F.2.1
  have hml := F.2.2.2.1
  have hown := F.2.2.2.2.1
  have hts := F.2.2.2.2.2.1
  have hG : ∀ x ∈ gT, x.before args s = true := fun x h => hts x (List.mem_cons_of_mem _ h)
  unfold fXX5_entryAt_7_0 at hf
  refine lv_iload_n hx hb dX5_entryAt_0 rfl (lv_at hl 1 rfl) ?_
  refine lv_if_lt (tgt := 21) hx hb dX5_entryAt_1 (by decide) (fun c1 => ?_) (fun c1 => ?_)
  · replace hf := (if_pos c1).symm.trans hf
    refine lv_iconst (v := (-1 : Int32)) hx hb dX5_entryAt_21 (by decide) ?_
    exact gw_reti F hW hf dX5_entryAt_22
  · replace hf := (if_neg c1).symm.trans hf
    refine lv_iload_n hx hb dX5_entryAt_4 rfl (lv_at hl 1 rfl) ?_
    refine lv_aload_n hx hb dX5_entryAt_5 rfl (lv_at hl 0 rfl) ?_
    refine gw_get (v := .int (σ.1 7)) F inc_X5 hW 7 5 3 (aX_7 K σ) rfl (by decide) (hG _ q_1_127) (fun _ h9 => h9) rfl dX5_entryAt_6 ?_
    refine lv_icmp_ge (tgt := 21) hx hb dX5_entryAt_9 (by decide) (fun c2 => ?_) (fun c2 => ?_)
    · replace hf := (if_pos c2).symm.trans hf
      refine lv_iconst (v := (-1 : Int32)) hx hb dX5_entryAt_21 (by decide) ?_
      exact gw_reti F hW hf dX5_entryAt_22
    · replace hf := (if_neg c2).symm.trans hf
      refine lv_aload_n hx hb dX5_entryAt_12 rfl (lv_at hl 0 rfl) ?_
      refine gw_get (v := .ref (ka K 8)) F inc_X5 hW 7 5 2 (aX_7 K σ) rfl (by decide) (hG _ q_1_126) (fun _ h9 => h9) rfl dX5_entryAt_13 ?_
      refine lv_iload_n hx hb dX5_entryAt_16 rfl (lv_at hl 1 rfl) ?_
      rcases Decidable.em (x1 < 0 ∨ 2578 ≤ x1.toNatClampNeg) with c3 | c3
      · replace hf := (if_pos c3).symm.trans hf
        exact absurd hf (by simp)
      · replace hf := (if_neg c3).symm.trans hf
        refine gw_iald F hW 8 1 (aX_8 K σ) rfl c3 dX5_entryAt_17 ?_
        refine lv_goto (tgt := 22) hx hb dX5_entryAt_18 (by decide) ?_
        exact gw_reti F hW hf dX5_entryAt_22
set_option maxHeartbeats 4000000 in
set_option maxRecDepth 100000 in
theorem mXX5_entryAt_7 {l : Launch} {K : KX} {σ : XS} {x1 : Int32} {o : (Int32 × XS)} (hf : fXX5_entryAt_7 (kn K) x1 σ = some o) : gw_Mi l (kD K) vwCl (tyX K) (wX K) yX5_entryAt wsX5_entryAt rXX5_entryAt_7 [.ref (ka K 7), .int x1] σ o := by
  intro sz
  refine gw_body (cc := cX5_entryAt) (maxL := 2) (yret := some .int) (by decide +kernel) rfl ?_ (Nat.le_of_ble_eq_true rfl)
  intro p e s m below meth c F hsz hW ls hl
  exact wXX5_entryAt_7_0 F x1 σ o hf s.heap [] ls hl hW
abbrev rXX5_lengthOf_7 : Room := { frames := 1, cells := 0, slots := 0, locals := 21 }
set_option maxHeartbeats 4000000 in
set_option maxRecDepth 100000 in
theorem wXX5_lengthOf_7_0 {p : Program} {l : Launch} {e : Env} {s : State} {m : MethodId} {args : Array Value} {below : List Frame} {meth : Method} {c : Code} {A : Nat → Prop} {K : KX} (F : fx_ p s m args meth c cX5_lengthOf 2 (some .int) RX5 wsX5_lengthOf) (x1 : Int32) (σ : XS) (o : (Int32 × XS)) (hf : fXX5_lengthOf_7_0 (kn K) x1 σ = some o) (H : Heap) (locs : List Loc) (ls : Array Slot) (hl : lv_has ls 2 [(0, .ref (ka K 7)), (1, .int x1)]) (hW : gw_ (kD K) vwCl (tyX K) (wX K) A s σ H locs) : W p l e rXX5_lengthOf_7 s m args below meth c H locs 0 0 (MQ below (gw_Qi (kD K) vwCl (tyX K) (wX K) A o) args s rXX5_lengthOf_7.cells rXX5_lengthOf_7.slots A) (F0 m 0 ls []) := by
  have hx := F.1
  have hb := F.2.1
  have hml := F.2.2.2.1
  have hown := F.2.2.2.2.1
  have hts := F.2.2.2.2.2.1
  have hG : ∀ x ∈ gT, x.before args s = true := fun x h => hts x (List.mem_cons_of_mem _ h)
  unfold fXX5_lengthOf_7_0 at hf
  refine lv_aload_n hx hb dX5_lengthOf_0 rfl (lv_at hl 0 rfl) ?_
  refine gw_get (v := .ref (ka K 1)) F inc_X5 hW 7 5 0 (aX_7 K σ) rfl (by decide) (hG _ q_1_124) (fun _ h9 => h9) rfl dX5_lengthOf_1 ?_
  refine lv_aload_n hx hb dX5_lengthOf_4 rfl (lv_at hl 0 rfl) ?_
  refine lv_iload_n hx hb dX5_lengthOf_5 rfl (lv_at hl 1 rfl) ?_
  obtain ⟨o1, h2, hf⟩ := gw_bind hf
  refine gw_Vi (As := [.int x1]) (mc' := 0) (ms' := 0) F hW (mXX5_entryAt_7 h2) (cwV 1 hts (gT_V q_2_191 q_2_184 q_2_185 q_1_7 q_2_186) rfl rfl rfl hdX5_entryAt ⟨Nat.le_of_ble_eq_true rfl, Nat.le_of_ble_eq_true rfl⟩) 7 5 (aX_7 K σ) rfl rfl hl.1 rfl (Nat.le_of_ble_eq_true rfl) dX5_lengthOf_6 ⟨Nat.le_of_ble_eq_true rfl, Nat.le_of_ble_eq_true rfl⟩ rfl rfl (fun H locs hW => ?_)
  refine lv_iconst (v := (4 : Int32)) hx hb dX5_lengthOf_9 (by decide) ?_
  refine lv_iadd hx hb dX5_lengthOf_10 ?_
  obtain ⟨o4, h5, hf⟩ := gw_bind hf
  refine gw_Vi (As := [.int (o1.1 + (4 : Int32))]) (mc' := 0) (ms' := 0) F hW (mXX1_get2_1 h5) (cwV 1 hts (gT_V q_2_168 q_2_110 q_2_111 q_1_3 q_2_112) rfl rfl rfl hdX1_get2 ⟨Nat.le_of_ble_eq_true rfl, Nat.le_of_ble_eq_true rfl⟩) 1 1 (aX_1 K o1.2) rfl rfl hl.1 rfl (Nat.le_of_ble_eq_true rfl) dX5_lengthOf_11 ⟨Nat.le_of_ble_eq_true rfl, Nat.le_of_ble_eq_true rfl⟩ rfl rfl (fun H locs hW => ?_)
  exact gw_reti F hW hf dX5_lengthOf_14
set_option maxHeartbeats 4000000 in
set_option maxRecDepth 100000 in
theorem mXX5_lengthOf_7 {l : Launch} {K : KX} {σ : XS} {x1 : Int32} {o : (Int32 × XS)} (hf : fXX5_lengthOf_7 (kn K) x1 σ = some o) : gw_Mi l (kD K) vwCl (tyX K) (wX K) yX5_lengthOf wsX5_lengthOf rXX5_lengthOf_7 [.ref (ka K 7), .int x1] σ o := by
  intro sz
  refine gw_body (cc := cX5_lengthOf) (maxL := 2) (yret := some .int) (by decide +kernel) rfl ?_ (Nat.le_of_ble_eq_true rfl)
  intro p e s m below meth c F hsz hW ls hl
  exact wXX5_lengthOf_7_0 F x1 σ o hf s.heap [] ls hl hW
abbrev rXX5_inodeOf_7 : Room := { frames := 1, cells := 0, slots := 0, locals := 21 }
set_option maxHeartbeats 4000000 in
set_option maxRecDepth 100000 in
theorem wXX5_inodeOf_7_0 {p : Program} {l : Launch} {e : Env} {s : State} {m : MethodId} {args : Array Value} {below : List Frame} {meth : Method} {c : Code} {A : Nat → Prop} {K : KX} (F : fx_ p s m args meth c cX5_inodeOf 2 (some .int) RX5 wsX5_inodeOf) (x1 : Int32) (σ : XS) (o : (Int32 × XS)) (hf : fXX5_inodeOf_7_0 (kn K) x1 σ = some o) (H : Heap) (locs : List Loc) (ls : Array Slot) (hl : lv_has ls 2 [(0, .ref (ka K 7)), (1, .int x1)]) (hW : gw_ (kD K) vwCl (tyX K) (wX K) A s σ H locs) : W p l e rXX5_inodeOf_7 s m args below meth c H locs 0 0 (MQ below (gw_Qi (kD K) vwCl (tyX K) (wX K) A o) args s rXX5_inodeOf_7.cells rXX5_inodeOf_7.slots A) (F0 m 0 ls []) := by
  have hx := F.1
  have hb := F.2.1
  have hml := F.2.2.2.1
  have hown := F.2.2.2.2.1
  have hts := F.2.2.2.2.2.1
  have hG : ∀ x ∈ gT, x.before args s = true := fun x h => hts x (List.mem_cons_of_mem _ h)
  unfold fXX5_inodeOf_7_0 at hf
  refine lv_aload_n hx hb dX5_inodeOf_0 rfl (lv_at hl 0 rfl) ?_
  refine gw_get (v := .ref (ka K 1)) F inc_X5 hW 7 5 0 (aX_7 K σ) rfl (by decide) (hG _ q_1_124) (fun _ h9 => h9) rfl dX5_inodeOf_1 ?_
  refine lv_aload_n hx hb dX5_inodeOf_4 rfl (lv_at hl 0 rfl) ?_
  refine lv_iload_n hx hb dX5_inodeOf_5 rfl (lv_at hl 1 rfl) ?_
  obtain ⟨o1, h2, hf⟩ := gw_bind hf
  refine gw_Vi (As := [.int x1]) (mc' := 0) (ms' := 0) F hW (mXX5_entryAt_7 h2) (cwV 1 hts (gT_V q_2_191 q_2_184 q_2_185 q_1_7 q_2_186) rfl rfl rfl hdX5_entryAt ⟨Nat.le_of_ble_eq_true rfl, Nat.le_of_ble_eq_true rfl⟩) 7 5 (aX_7 K σ) rfl rfl hl.1 rfl (Nat.le_of_ble_eq_true rfl) dX5_inodeOf_6 ⟨Nat.le_of_ble_eq_true rfl, Nat.le_of_ble_eq_true rfl⟩ rfl rfl (fun H locs hW => ?_)
  obtain ⟨o4, h5, hf⟩ := gw_bind hf
  refine gw_Vi (As := [.int o1.1]) (mc' := 0) (ms' := 0) F hW (mXX1_get4_1 h5) (cwV 1 hts (gT_V q_2_196 q_2_114 q_2_115 q_1_3 q_2_116) rfl rfl rfl hdX1_get4 ⟨Nat.le_of_ble_eq_true rfl, Nat.le_of_ble_eq_true rfl⟩) 1 1 (aX_1 K o1.2) rfl rfl hl.1 rfl (Nat.le_of_ble_eq_true rfl) dX5_inodeOf_9 ⟨Nat.le_of_ble_eq_true rfl, Nat.le_of_ble_eq_true rfl⟩ rfl rfl (fun H locs hW => ?_)
  exact gw_reti F hW hf dX5_inodeOf_12
set_option maxHeartbeats 4000000 in
set_option maxRecDepth 100000 in
theorem mXX5_inodeOf_7 {l : Launch} {K : KX} {σ : XS} {x1 : Int32} {o : (Int32 × XS)} (hf : fXX5_inodeOf_7 (kn K) x1 σ = some o) : gw_Mi l (kD K) vwCl (tyX K) (wX K) yX5_inodeOf wsX5_inodeOf rXX5_inodeOf_7 [.ref (ka K 7), .int x1] σ o := by
  intro sz
  refine gw_body (cc := cX5_inodeOf) (maxL := 2) (yret := some .int) (by decide +kernel) rfl ?_ (Nat.le_of_ble_eq_true rfl)
  intro p e s m below meth c F hsz hW ls hl
  exact wXX5_inodeOf_7_0 F x1 σ o hf s.heap [] ls hl hW
abbrev rXX5_nameLengthOf_7 : Room := { frames := 1, cells := 0, slots := 0, locals := 21 }
set_option maxHeartbeats 4000000 in
set_option maxRecDepth 100000 in
theorem wXX5_nameLengthOf_7_0 {p : Program} {l : Launch} {e : Env} {s : State} {m : MethodId} {args : Array Value} {below : List Frame} {meth : Method} {c : Code} {A : Nat → Prop} {K : KX} (F : fx_ p s m args meth c cX5_nameLengthOf 2 (some .int) RX5 wsX5_nameLengthOf) (x1 : Int32) (σ : XS) (o : (Int32 × XS)) (hf : fXX5_nameLengthOf_7_0 (kn K) x1 σ = some o) (H : Heap) (locs : List Loc) (ls : Array Slot) (hl : lv_has ls 2 [(0, .ref (ka K 7)), (1, .int x1)]) (hW : gw_ (kD K) vwCl (tyX K) (wX K) A s σ H locs) : W p l e rXX5_nameLengthOf_7 s m args below meth c H locs 0 0 (MQ below (gw_Qi (kD K) vwCl (tyX K) (wX K) A o) args s rXX5_nameLengthOf_7.cells rXX5_nameLengthOf_7.slots A) (F0 m 0 ls []) := by
  have hx := F.1
  have hb := F.2.1
  have hml := F.2.2.2.1
  have hown := F.2.2.2.2.1
  have hts := F.2.2.2.2.2.1
  have hG : ∀ x ∈ gT, x.before args s = true := fun x h => hts x (List.mem_cons_of_mem _ h)
  unfold fXX5_nameLengthOf_7_0 at hf
  refine lv_aload_n hx hb dX5_nameLengthOf_0 rfl (lv_at hl 0 rfl) ?_
  refine gw_get (v := .ref (ka K 1)) F inc_X5 hW 7 5 0 (aX_7 K σ) rfl (by decide) (hG _ q_1_124) (fun _ h9 => h9) rfl dX5_nameLengthOf_1 ?_
  refine lv_aload_n hx hb dX5_nameLengthOf_4 rfl (lv_at hl 0 rfl) ?_
  refine lv_iload_n hx hb dX5_nameLengthOf_5 rfl (lv_at hl 1 rfl) ?_
  obtain ⟨o1, h2, hf⟩ := gw_bind hf
  refine gw_Vi (As := [.int x1]) (mc' := 0) (ms' := 0) F hW (mXX5_entryAt_7 h2) (cwV 1 hts (gT_V q_2_191 q_2_184 q_2_185 q_1_7 q_2_186) rfl rfl rfl hdX5_entryAt ⟨Nat.le_of_ble_eq_true rfl, Nat.le_of_ble_eq_true rfl⟩) 7 5 (aX_7 K σ) rfl rfl hl.1 rfl (Nat.le_of_ble_eq_true rfl) dX5_nameLengthOf_6 ⟨Nat.le_of_ble_eq_true rfl, Nat.le_of_ble_eq_true rfl⟩ rfl rfl (fun H locs hW => ?_)
  refine lv_bipush (v := (6 : Int32)) hx hb dX5_nameLengthOf_9 (by decide) ?_
  refine lv_iadd hx hb dX5_nameLengthOf_11 ?_
  obtain ⟨o4, h5, hf⟩ := gw_bind hf
  refine gw_Vi (As := [.int (o1.1 + (6 : Int32))]) (mc' := 0) (ms' := 0) F hW (mXX1_get_1 h5) (cwV 1 hts (gT_V q_2_201 q_2_56 q_2_57 q_1_3 q_2_58) rfl rfl rfl hdX1_get ⟨Nat.le_of_ble_eq_true rfl, Nat.le_of_ble_eq_true rfl⟩) 1 1 (aX_1 K o1.2) rfl rfl hl.1 rfl (Nat.le_of_ble_eq_true rfl) dX5_nameLengthOf_12 ⟨Nat.le_of_ble_eq_true rfl, Nat.le_of_ble_eq_true rfl⟩ rfl rfl (fun H locs hW => ?_)
  exact gw_reti F hW hf dX5_nameLengthOf_15
set_option maxHeartbeats 4000000 in
set_option maxRecDepth 100000 in
theorem mXX5_nameLengthOf_7 {l : Launch} {K : KX} {σ : XS} {x1 : Int32} {o : (Int32 × XS)} (hf : fXX5_nameLengthOf_7 (kn K) x1 σ = some o) : gw_Mi l (kD K) vwCl (tyX K) (wX K) yX5_nameLengthOf wsX5_nameLengthOf rXX5_nameLengthOf_7 [.ref (ka K 7), .int x1] σ o := by
  intro sz
  refine gw_body (cc := cX5_nameLengthOf) (maxL := 2) (yret := some .int) (by decide +kernel) rfl ?_ (Nat.le_of_ble_eq_true rfl)
  intro p e s m below meth c F hsz hW ls hl
  exact wXX5_nameLengthOf_7_0 F x1 σ o hf s.heap [] ls hl hW
abbrev rXX5_spaceFor : Room := { frames := 0, cells := 0, slots := 0, locals := 0 }
set_option maxHeartbeats 4000000 in
set_option maxRecDepth 100000 in
theorem wXX5_spaceFor_0 {p : Program} {l : Launch} {e : Env} {s : State} {m : MethodId} {args : Array Value} {below : List Frame} {meth : Method} {c : Code} {A : Nat → Prop} {K : KX} (F : fx_ p s m args meth c cX5_spaceFor 1 (some .int) RX5 wsX5_spaceFor) (x0 : Int32) (σ : XS) (o : (Int32 × XS)) (hf : fXX5_spaceFor_0 (kn K) x0 σ = some o) (H : Heap) (locs : List Loc) (ls : Array Slot) (hl : lv_has ls 1 [(0, .int x0)]) (hW : gw_ (kD K) vwCl (tyX K) (wX K) A s σ H locs) : W p l e rXX5_spaceFor s m args below meth c H locs 0 0 (MQ below (gw_Qi (kD K) vwCl (tyX K) (wX K) A o) args s rXX5_spaceFor.cells rXX5_spaceFor.slots A) (F0 m 0 ls []) := by
  have hx := F.1
  have hb := F.2.1
  have hml := F.2.2.2.1
  have hown := F.2.2.2.2.1
  have hts := F.2.2.2.2.2.1
  have hG : ∀ x ∈ gT, x.before args s = true := fun x h => hts x (List.mem_cons_of_mem _ h)
  unfold fXX5_spaceFor_0 at hf
  refine lv_bipush (v := (8 : Int32)) hx hb dX5_spaceFor_0 (by decide) ?_
  refine lv_iload_n hx hb dX5_spaceFor_2 rfl (lv_at hl 0 rfl) ?_
  refine lv_iadd hx hb dX5_spaceFor_3 ?_
  refine lv_iconst (v := (3 : Int32)) hx hb dX5_spaceFor_4 (by decide) ?_
  refine lv_iadd hx hb dX5_spaceFor_5 ?_
  refine lv_iconst (v := (4 : Int32)) hx hb dX5_spaceFor_6 (by decide) ?_
  refine lv_idiv hx hb dX5_spaceFor_7 (by decide) ?_
  refine lv_iconst (v := (4 : Int32)) hx hb dX5_spaceFor_8 (by decide) ?_
  refine lv_imul hx hb dX5_spaceFor_9 ?_
  exact gw_reti F hW hf dX5_spaceFor_10
set_option maxHeartbeats 4000000 in
set_option maxRecDepth 100000 in
theorem mXX5_spaceFor {l : Launch} {K : KX} {σ : XS} {x0 : Int32} {o : (Int32 × XS)} (hf : fXX5_spaceFor (kn K) x0 σ = some o) : gw_Mi l (kD K) vwCl (tyX K) (wX K) yX5_spaceFor wsX5_spaceFor rXX5_spaceFor [.int x0] σ o := by
  intro sz
  refine gw_body (cc := cX5_spaceFor) (maxL := 1) (yret := some .int) (by decide +kernel) rfl ?_ (Nat.le_of_ble_eq_true rfl)
  intro p e s m below meth c F hsz hW ls hl
  exact wXX5_spaceFor_0 F x0 σ o hf s.heap [] ls hl hW
abbrev rXX5_usedBy_7 : Room := { frames := 1, cells := 0, slots := 0, locals := 21 }
set_option maxHeartbeats 4000000 in
set_option maxRecDepth 100000 in
theorem wXX5_usedBy_7_0 {p : Program} {l : Launch} {e : Env} {s : State} {m : MethodId} {args : Array Value} {below : List Frame} {meth : Method} {c : Code} {A : Nat → Prop} {K : KX} (F : fx_ p s m args meth c cX5_usedBy 3 (some .int) RX5 wsX5_usedBy) (x1 : Int32) (σ : XS) (o : (Int32 × XS)) (hf : fXX5_usedBy_7_0 (kn K) x1 σ = some o) (H : Heap) (locs : List Loc) (ls : Array Slot) (hl : lv_has ls 3 [(0, .ref (ka K 7)), (1, .int x1)]) (hW : gw_ (kD K) vwCl (tyX K) (wX K) A s σ H locs) : W p l e rXX5_usedBy_7 s m args below meth c H locs 0 0 (MQ below (gw_Qi (kD K) vwCl (tyX K) (wX K) A o) args s rXX5_usedBy_7.cells rXX5_usedBy_7.slots A) (F0 m 0 ls []) := by
  have hx := F.1
  have hb := F.2.1
  have hml := F.2.2.2.1
  have hown := F.2.2.2.2.1
  have hts := F.2.2.2.2.2.1
  have hG : ∀ x ∈ gT, x.before args s = true := fun x h => hts x (List.mem_cons_of_mem _ h)
  unfold fXX5_usedBy_7_0 at hf
  refine lv_aload_n hx hb dX5_usedBy_0 rfl (lv_at hl 0 rfl) ?_
  refine lv_iload_n hx hb dX5_usedBy_1 rfl (lv_at hl 1 rfl) ?_
  obtain ⟨o1, h2, hf⟩ := gw_bind hf
  refine gw_Vi (As := [.int x1]) (mc' := 0) (ms' := 0) F hW (mXX5_entryAt_7 h2) (cwV 1 hts (gT_V q_2_191 q_2_184 q_2_185 q_1_7 q_2_186) rfl rfl rfl hdX5_entryAt ⟨Nat.le_of_ble_eq_true rfl, Nat.le_of_ble_eq_true rfl⟩) 7 5 (aX_7 K σ) rfl rfl hl.1 rfl (Nat.le_of_ble_eq_true rfl) dX5_usedBy_2 ⟨Nat.le_of_ble_eq_true rfl, Nat.le_of_ble_eq_true rfl⟩ rfl rfl (fun H locs hW => ?_)
  refine lv_istore_n (lv' := [(2, .int o1.1), (0, .ref (ka K 7)), (1, .int x1)]) hx hb dX5_usedBy_5 rfl hl (by decide) rfl (fun ls hl => ?_)
  refine lv_aload_n hx hb dX5_usedBy_6 rfl (lv_at hl 1 rfl) ?_
  refine gw_get (v := .ref (ka K 1)) F inc_X5 hW 7 5 0 (aX_7 K o1.2) rfl (by decide) (hG _ q_1_124) (fun _ h9 => h9) rfl dX5_usedBy_7 ?_
  refine lv_iload_n hx hb dX5_usedBy_10 rfl (lv_at hl 0 rfl) ?_
  obtain ⟨o4, h5, hf⟩ := gw_bind hf
  refine gw_Vi (As := [.int o1.1]) (mc' := 0) (ms' := 0) F hW (mXX1_get4_1 h5) (cwV 1 hts (gT_V q_2_196 q_2_114 q_2_115 q_1_3 q_2_116) rfl rfl rfl hdX1_get4 ⟨Nat.le_of_ble_eq_true rfl, Nat.le_of_ble_eq_true rfl⟩) 1 1 (aX_1 K o1.2) rfl rfl hl.1 rfl (Nat.le_of_ble_eq_true rfl) dX5_usedBy_11 ⟨Nat.le_of_ble_eq_true rfl, Nat.le_of_ble_eq_true rfl⟩ rfl rfl (fun H locs hW => ?_)
  refine lv_if_ne (tgt := 21) hx hb dX5_usedBy_14 (by decide) (fun c7 => ?_) (fun c7 => ?_)
  · replace hf := (if_neg c7).symm.trans hf
    refine lv_aload_n hx hb dX5_usedBy_21 rfl (lv_at hl 1 rfl) ?_
    refine gw_get (v := .ref (ka K 1)) F inc_X5 hW 7 5 0 (aX_7 K o4.2) rfl (by decide) (hG _ q_1_124) (fun _ h9 => h9) rfl dX5_usedBy_22 ?_
    refine lv_iload_n hx hb dX5_usedBy_25 rfl (lv_at hl 0 rfl) ?_
    refine lv_bipush (v := (6 : Int32)) hx hb dX5_usedBy_26 (by decide) ?_
    refine lv_iadd hx hb dX5_usedBy_28 ?_
    obtain ⟨o8, h9, hf⟩ := gw_bind hf
    refine gw_Vi (As := [.int (o1.1 + (6 : Int32))]) (mc' := 0) (ms' := 0) F hW (mXX1_get_1 h9) (cwV 1 hts (gT_V q_2_201 q_2_56 q_2_57 q_1_3 q_2_58) rfl rfl rfl hdX1_get ⟨Nat.le_of_ble_eq_true rfl, Nat.le_of_ble_eq_true rfl⟩) 1 1 (aX_1 K o4.2) rfl rfl hl.1 rfl (Nat.le_of_ble_eq_true rfl) dX5_usedBy_29 ⟨Nat.le_of_ble_eq_true rfl, Nat.le_of_ble_eq_true rfl⟩ rfl rfl (fun H locs hW => ?_)
    obtain ⟨o11, h12, hf⟩ := gw_bind hf
    refine gw_Si (As := [.int o8.1]) (mc' := 0) (ms' := 0) F hW (mXX5_spaceFor h12) (va_cwS 1 hts (gT_S q_2_202 q_2_203 q_1_7 q_2_204) rfl rfl rfl hdX5_spaceFor.2 ⟨Nat.le_of_ble_eq_true rfl, Nat.le_of_ble_eq_true rfl⟩) rfl hl.1 rfl (Nat.le_of_ble_eq_true rfl) dX5_usedBy_32 ⟨Nat.le_of_ble_eq_true rfl, Nat.le_of_ble_eq_true rfl⟩ rfl rfl (fun H locs hW => ?_)
    exact gw_reti F hW hf dX5_usedBy_35
  · replace hf := (if_pos c7).symm.trans hf
    refine lv_iconst (v := (0 : Int32)) hx hb dX5_usedBy_17 (by decide) ?_
    refine lv_goto (tgt := 35) hx hb dX5_usedBy_18 (by decide) ?_
    exact gw_reti F hW hf dX5_usedBy_35
set_option maxHeartbeats 4000000 in
set_option maxRecDepth 100000 in
theorem mXX5_usedBy_7 {l : Launch} {K : KX} {σ : XS} {x1 : Int32} {o : (Int32 × XS)} (hf : fXX5_usedBy_7 (kn K) x1 σ = some o) : gw_Mi l (kD K) vwCl (tyX K) (wX K) yX5_usedBy wsX5_usedBy rXX5_usedBy_7 [.ref (ka K 7), .int x1] σ o := by
  intro sz
  refine gw_body (cc := cX5_usedBy) (maxL := 3) (yret := some .int) (by decide +kernel) rfl ?_ (Nat.le_of_ble_eq_true rfl)
  intro p e s m below meth c F hsz hW ls hl
  exact wXX5_usedBy_7_0 F x1 σ o hf s.heap [] ls hl hW
abbrev rXX7_entryHolds_10 : Room := { frames := 2, cells := 0, slots := 0, locals := 44 }
set_option maxHeartbeats 4000000 in
set_option maxRecDepth 100000 in
theorem wXX7_entryHolds_10_113 {p : Program} {l : Launch} {e : Env} {s : State} {m : MethodId} {args : Array Value} {below : List Frame} {meth : Method} {c : Code} {A : Nat → Prop} {K : KX} (F : fx_ p s m args meth c cX7_entryHolds 8 (some .boolean) RX7 wsX7_entryHolds) (x1 : Int32) (x2 : Int32) (x5 : Int32) (y0 : Int32) (σ : XS) (o : (Int32 × XS)) (hf : fXX7_entryHolds_10_113 (kn K) x1 x2 x5 y0 σ = some o) (H : Heap) (locs : List Loc) (ls : Array Slot) (hl : lv_has ls 8 [(0, .ref (ka K 10)), (1, .int x1), (2, .int x2), (5, .int x5)]) (hW : gw_ (kD K) vwCl (tyX K) (wX K) A s σ H locs) : W p l e rXX7_entryHolds_10 s m args below meth c H locs 0 0 (MQ below (va_Qi (fun r u => (r = o.1 ∧ u = o.2) ∧ (o.1 = 0 ∨ o.1 = 1)) (gw_B (kD K) vwCl (tyX K) (wX K) A) A) args s rXX7_entryHolds_10.cells rXX7_entryHolds_10.slots A) (F0 m 113 ls [.int y0]) := by
  have hx := F.1
  have hb := F.2.1
  have hml := F.2.2.2.1
  have hown := F.2.2.2.2.1
  have hts := F.2.2.2.2.2.1
  have hG : ∀ x ∈ gT, x.before args s = true := fun x h => hts x (List.mem_cons_of_mem _ h)
  unfold fXX7_entryHolds_10_113 at hf
  refine lv_istore (lv' := [(6, .int y0), (0, .ref (ka K 10)), (1, .int x1), (2, .int x2), (5, .int x5)]) hx hb dX7_entryHolds_113 hl (by decide) rfl (fun ls hl => ?_)
  refine lv_iload_n hx hb dX7_entryHolds_115 rfl (lv_at hl 3 rfl) ?_
  refine lv_bipush (v := (8 : Int32)) hx hb dX7_entryHolds_116 (by decide) ?_
  refine lv_iadd hx hb dX7_entryHolds_118 ?_
  refine lv_aload_n hx hb dX7_entryHolds_119 rfl (lv_at hl 1 rfl) ?_
  refine gw_get (v := .ref (ka K 7)) F inc_X7 hW 10 7 5 (aX_10 K σ) rfl (by decide) (hG _ q_1_175) (fun _ h9 => h9) rfl dX7_entryHolds_120 ?_
  refine lv_iload_n hx hb dX7_entryHolds_123 rfl (lv_at hl 2 rfl) ?_
  obtain ⟨o16, h17, hf⟩ := gw_bind hf
  refine gw_Vi (As := [.int x1]) (mc' := 0) (ms' := 0) F hW (mXX5_nameLengthOf_7 h17) (cwV 1 hts (gT_V q_2_205 q_2_206 q_2_207 q_1_7 q_2_208) rfl rfl rfl hdX5_nameLengthOf ⟨Nat.le_of_ble_eq_true rfl, Nat.le_of_ble_eq_true rfl⟩) 7 5 (aX_7 K σ) rfl rfl hl.1 rfl (Nat.le_of_ble_eq_true rfl) dX7_entryHolds_124 ⟨Nat.le_of_ble_eq_true rfl, Nat.le_of_ble_eq_true rfl⟩ rfl rfl (fun H locs hW => ?_)
  refine lv_iadd hx hb dX7_entryHolds_127 ?_
  refine lv_istore (lv' := [(7, .int ((x2 + (8 : Int32)) + o16.1)), (6, .int y0), (0, .ref (ka K 10)), (1, .int x1), (2, .int x2), (5, .int x5)]) hx hb dX7_entryHolds_128 hl (by decide) rfl (fun ls hl => ?_)
  refine lv_iload hx hb dX7_entryHolds_130 (lv_at hl 5 rfl) ?_
  refine lv_if_eq (tgt := 177) hx hb dX7_entryHolds_132 (by decide) (fun c19 => ?_) (fun c19 => ?_)
  · replace hf := (if_pos c19).symm.trans hf
    refine lv_iconst (v := (0 : Int32)) hx hb dX7_entryHolds_177 (by decide) ?_
    exact gw_retz F hW hf (Or.inl rfl) dX7_entryHolds_178
  · replace hf := (if_neg c19).symm.trans hf
    refine lv_aload_n hx hb dX7_entryHolds_135 rfl (lv_at hl 2 rfl) ?_
    refine gw_get (v := .ref (ka K 1)) F inc_X7 hW 10 7 0 (aX_10 K o16.2) rfl (by decide) (hG _ q_1_170) (fun _ h9 => h9) rfl dX7_entryHolds_136 ?_
    refine lv_iload_n hx hb dX7_entryHolds_139 rfl (lv_at hl 4 rfl) ?_
    refine lv_bipush (v := (7 : Int32)) hx hb dX7_entryHolds_140 (by decide) ?_
    refine lv_iadd hx hb dX7_entryHolds_142 ?_
    obtain ⟨o20, h21, hf⟩ := gw_bind hf
    refine gw_Vi (As := [.int (x2 + (7 : Int32))]) (mc' := 0) (ms' := 0) F hW (mXX1_get_1 h21) (cwV 1 hts (gT_V q_2_209 q_2_56 q_2_57 q_1_3 q_2_58) rfl rfl rfl hdX1_get ⟨Nat.le_of_ble_eq_true rfl, Nat.le_of_ble_eq_true rfl⟩) 1 1 (aX_1 K o16.2) rfl rfl hl.1 rfl (Nat.le_of_ble_eq_true rfl) dX7_entryHolds_143 ⟨Nat.le_of_ble_eq_true rfl, Nat.le_of_ble_eq_true rfl⟩ rfl rfl (fun H locs hW => ?_)
    refine lv_iload hx hb dX7_entryHolds_146 (lv_at hl 1 rfl) ?_
    refine lv_icmp_ne (tgt := 177) hx hb dX7_entryHolds_148 (by decide) (fun c23 => ?_) (fun c23 => ?_)
    · replace hf := (if_neg c23).symm.trans hf
      refine lv_iconst (v := (0 : Int32)) hx hb dX7_entryHolds_177 (by decide) ?_
      exact gw_retz F hW hf (Or.inl rfl) dX7_entryHolds_178
    · replace hf := (if_pos c23).symm.trans hf
      refine lv_aload_n hx hb dX7_entryHolds_151 rfl (lv_at hl 2 rfl) ?_
      refine gw_get (v := .ref (ka K 1)) F inc_X7 hW 10 7 0 (aX_10 K o20.2) rfl (by decide) (hG _ q_1_170) (fun _ h9 => h9) rfl dX7_entryHolds_152 ?_
      refine lv_iload hx hb dX7_entryHolds_155 (lv_at hl 0 rfl) ?_
      refine lv_iload_n hx hb dX7_entryHolds_157 rfl (lv_at hl 4 rfl) ?_
      refine lv_aload_n hx hb dX7_entryHolds_158 rfl (lv_at hl 2 rfl) ?_
      refine gw_get (v := .ref (ka K 7)) F inc_X7 hW 10 7 5 (aX_10 K o20.2) rfl (by decide) (hG _ q_1_175) (fun _ h9 => h9) rfl dX7_entryHolds_159 ?_
      refine lv_iload_n hx hb dX7_entryHolds_162 rfl (lv_at hl 3 rfl) ?_
      obtain ⟨o24, h25, hf⟩ := gw_bind hf
      refine gw_Vi (As := [.int x1]) (mc' := 0) (ms' := 0) F hW (mXX5_usedBy_7 h25) (cwV 1 hts (gT_V q_2_197 q_2_198 q_2_199 q_1_7 q_2_200) rfl rfl rfl hdX5_usedBy ⟨Nat.le_of_ble_eq_true rfl, Nat.le_of_ble_eq_true rfl⟩) 7 5 (aX_7 K o20.2) rfl rfl hl.1 rfl (Nat.le_of_ble_eq_true rfl) dX7_entryHolds_163 ⟨Nat.le_of_ble_eq_true rfl, Nat.le_of_ble_eq_true rfl⟩ rfl rfl (fun H locs hW => ?_)
      refine lv_iadd hx hb dX7_entryHolds_166 ?_
      obtain ⟨o27, h28, hf⟩ := gw_bind hf
      refine gw_Vz (As := [.int ((x2 + (8 : Int32)) + o16.1), .int (x2 + o24.1)]) (mc' := 0) (ms' := 0) F hW (mXX1_isZero_1 h28) (cwV 2 hts (gT_V q_2_122 q_2_123 q_2_124 q_1_3 q_2_125) rfl rfl rfl hdX1_isZero ⟨Nat.le_of_ble_eq_true rfl, Nat.le_of_ble_eq_true rfl⟩) 1 1 (aX_1 K o24.2) rfl rfl hl.1 rfl (Nat.le_of_ble_eq_true rfl) dX7_entryHolds_167 ⟨Nat.le_of_ble_eq_true rfl, Nat.le_of_ble_eq_true rfl⟩ rfl rfl (fun H locs z29 hW => ?_)
      refine lv_if_eq (tgt := 177) hx hb dX7_entryHolds_170 (by decide) (fun c30 => ?_) (fun c30 => ?_)
      · replace hf := (if_pos c30).symm.trans hf
        refine lv_iconst (v := (0 : Int32)) hx hb dX7_entryHolds_177 (by decide) ?_
        exact gw_retz F hW hf (Or.inl rfl) dX7_entryHolds_178
      · replace hf := (if_neg c30).symm.trans hf
        refine lv_iconst (v := (1 : Int32)) hx hb dX7_entryHolds_173 (by decide) ?_
        refine lv_goto (tgt := 178) hx hb dX7_entryHolds_174 (by decide) ?_
        exact gw_retz F hW hf (Or.inr rfl) dX7_entryHolds_178
set_option maxHeartbeats 4000000 in
set_option maxRecDepth 100000 in
theorem wXX7_entryHolds_10_70 {p : Program} {l : Launch} {e : Env} {s : State} {m : MethodId} {args : Array Value} {below : List Frame} {meth : Method} {c : Code} {A : Nat → Prop} {K : KX} (F : fx_ p s m args meth c cX7_entryHolds 8 (some .boolean) RX7 wsX7_entryHolds) (x1 : Int32) (x2 : Int32) (x4 : Int32) (y0 : Int32) (σ : XS) (o : (Int32 × XS)) (hf : fXX7_entryHolds_10_70 (kn K) x1 x2 x4 y0 σ = some o) (H : Heap) (locs : List Loc) (ls : Array Slot) (hl : lv_has ls 8 [(0, .ref (ka K 10)), (1, .int x1), (2, .int x2), (4, .int x4)]) (hW : gw_ (kD K) vwCl (tyX K) (wX K) A s σ H locs) : W p l e rXX7_entryHolds_10 s m args below meth c H locs 0 0 (MQ below (va_Qi (fun r u => (r = o.1 ∧ u = o.2) ∧ (o.1 = 0 ∨ o.1 = 1)) (gw_B (kD K) vwCl (tyX K) (wX K) A) A) args s rXX7_entryHolds_10.cells rXX7_entryHolds_10.slots A) (F0 m 70 ls [.int y0]) := by
  have hx := F.1
  have hb := F.2.1
  have hml := F.2.2.2.1
  have hown := F.2.2.2.2.1
  have hts := F.2.2.2.2.2.1
  have hG : ∀ x ∈ gT, x.before args s = true := fun x h => hts x (List.mem_cons_of_mem _ h)
  unfold fXX7_entryHolds_10_70 at hf
  refine lv_istore (lv' := [(5, .int y0), (0, .ref (ka K 10)), (1, .int x1), (2, .int x2), (4, .int x4)]) hx hb dX7_entryHolds_70 hl (by decide) rfl (fun ls hl => ?_)
  refine lv_iload hx hb dX7_entryHolds_72 (lv_at hl 4 rfl) ?_
  refine lv_if_ne (tgt := 96) hx hb dX7_entryHolds_74 (by decide) (fun c11 => ?_) (fun c11 => ?_)
  · replace hf := (if_neg c11).symm.trans hf
    refine lv_aload_n hx hb dX7_entryHolds_96 rfl (lv_at hl 1 rfl) ?_
    refine gw_get (v := .ref (ka K 6)) F inc_X7 hW 10 7 4 (aX_10 K σ) rfl (by decide) (hG _ q_1_174) (fun _ h9 => h9) rfl dX7_entryHolds_97 ?_
    refine lv_iload hx hb dX7_entryHolds_100 (lv_at hl 4 rfl) ?_
    obtain ⟨o12, h13, hf⟩ := gw_bind hf
    refine gw_Vz (As := [.int x4]) (mc' := 0) (ms' := 0) F hW (mXX4_isDirectory_6 h13) (cwV 1 hts (gT_V q_2_143 q_2_144 q_2_145 q_1_6 q_2_146) rfl rfl rfl hdX4_isDirectory ⟨Nat.le_of_ble_eq_true rfl, Nat.le_of_ble_eq_true rfl⟩) 6 4 (aX_6 K σ) rfl rfl hl.1 rfl (Nat.le_of_ble_eq_true rfl) dX7_entryHolds_102 ⟨Nat.le_of_ble_eq_true rfl, Nat.le_of_ble_eq_true rfl⟩ rfl rfl (fun H locs z14 hW => ?_)
    refine lv_if_eq (tgt := 112) hx hb dX7_entryHolds_105 (by decide) (fun c15 => ?_) (fun c15 => ?_)
    · replace hf := (if_pos c15).symm.trans hf
      refine lv_iconst (v := (1 : Int32)) hx hb dX7_entryHolds_112 (by decide) ?_
      exact wXX7_entryHolds_10_113 F x1 x2 y0 (1 : Int32) _ _ hf _ _ _ (lv_sub hl [1, 2, 3, 0] rfl) hW
    · replace hf := (if_neg c15).symm.trans hf
      refine lv_iconst (v := (2 : Int32)) hx hb dX7_entryHolds_108 (by decide) ?_
      refine lv_goto (tgt := 113) hx hb dX7_entryHolds_109 (by decide) ?_
      exact wXX7_entryHolds_10_113 F x1 x2 y0 (2 : Int32) _ _ hf _ _ _ (lv_sub hl [1, 2, 3, 0] rfl) hW
  · replace hf := (if_pos c11).symm.trans hf
    refine lv_iload hx hb dX7_entryHolds_77 (lv_at hl 0 rfl) ?_
    refine lv_if_eq (tgt := 94) hx hb dX7_entryHolds_79 (by decide) (fun c31 => ?_) (fun c31 => ?_)
    · replace hf := (if_pos c31).symm.trans hf
      refine lv_iconst (v := (0 : Int32)) hx hb dX7_entryHolds_94 (by decide) ?_
      exact gw_retz F hW hf (Or.inl rfl) dX7_entryHolds_95
    · replace hf := (if_neg c31).symm.trans hf
      refine lv_iload_n hx hb dX7_entryHolds_82 rfl (lv_at hl 3 rfl) ?_
      refine lv_sipush (v := (1024 : Int32)) hx hb dX7_entryHolds_83 (by decide) ?_
      refine lv_irem hx hb dX7_entryHolds_86 (by decide) ?_
      refine lv_if_ne (tgt := 94) hx hb dX7_entryHolds_87 (by decide) (fun c32 => ?_) (fun c32 => ?_)
      · replace hf := (if_neg c32).symm.trans hf
        refine lv_iconst (v := (0 : Int32)) hx hb dX7_entryHolds_94 (by decide) ?_
        exact gw_retz F hW hf (Or.inl rfl) dX7_entryHolds_95
      · replace hf := (if_pos c32).symm.trans hf
        refine lv_iconst (v := (1 : Int32)) hx hb dX7_entryHolds_90 (by decide) ?_
        refine lv_goto (tgt := 95) hx hb dX7_entryHolds_91 (by decide) ?_
        exact gw_retz F hW hf (Or.inr rfl) dX7_entryHolds_95
set_option maxHeartbeats 4000000 in
set_option maxRecDepth 100000 in
theorem wXX7_entryHolds_10_69 {p : Program} {l : Launch} {e : Env} {s : State} {m : MethodId} {args : Array Value} {below : List Frame} {meth : Method} {c : Code} {A : Nat → Prop} {K : KX} (F : fx_ p s m args meth c cX7_entryHolds 8 (some .boolean) RX7 wsX7_entryHolds) (x1 : Int32) (x2 : Int32) (x4 : Int32) (σ : XS) (o : (Int32 × XS)) (hf : fXX7_entryHolds_10_69 (kn K) x1 x2 x4 σ = some o) (H : Heap) (locs : List Loc) (ls : Array Slot) (hl : lv_has ls 8 [(0, .ref (ka K 10)), (1, .int x1), (2, .int x2), (4, .int x4)]) (hW : gw_ (kD K) vwCl (tyX K) (wX K) A s σ H locs) : W p l e rXX7_entryHolds_10 s m args below meth c H locs 0 0 (MQ below (va_Qi (fun r u => (r = o.1 ∧ u = o.2) ∧ (o.1 = 0 ∨ o.1 = 1)) (gw_B (kD K) vwCl (tyX K) (wX K) A) A) args s rXX7_entryHolds_10.cells rXX7_entryHolds_10.slots A) (F0 m 69 ls []) := by
  have hx := F.1
  have hb := F.2.1
  have hml := F.2.2.2.1
  have hown := F.2.2.2.2.1
  have hts := F.2.2.2.2.2.1
  have hG : ∀ x ∈ gT, x.before args s = true := fun x h => hts x (List.mem_cons_of_mem _ h)
  unfold fXX7_entryHolds_10_69 at hf
  refine lv_iconst (v := (0 : Int32)) hx hb dX7_entryHolds_69 (by decide) ?_
  exact wXX7_entryHolds_10_70 F x1 x2 x4 (0 : Int32) _ _ hf _ _ _ (lv_sub hl [0, 1, 2, 3] rfl) hW
set_option maxHeartbeats 4000000 in
set_option maxRecDepth 100000 in
theorem wXX7_entryHolds_10_0 {p : Program} {l : Launch} {e : Env} {s : State} {m : MethodId} {args : Array Value} {below : List Frame} {meth : Method} {c : Code} {A : Nat → Prop} {K : KX} (F : fx_ p s m args meth c cX7_entryHolds 8 (some .boolean) RX7 wsX7_entryHolds) (x1 : Int32) (σ : XS) (o : (Int32 × XS)) (hf : fXX7_entryHolds_10_0 (kn K) x1 σ = some o) (H : Heap) (locs : List Loc) (ls : Array Slot) (hl : lv_has ls 8 [(0, .ref (ka K 10)), (1, .int x1)]) (hW : gw_ (kD K) vwCl (tyX K) (wX K) A s σ H locs) : W p l e rXX7_entryHolds_10 s m args below meth c H locs 0 0 (MQ below (va_Qi (fun r u => (r = o.1 ∧ u = o.2) ∧ (o.1 = 0 ∨ o.1 = 1)) (gw_B (kD K) vwCl (tyX K) (wX K) A) A) args s rXX7_entryHolds_10.cells rXX7_entryHolds_10.slots A) (F0 m 0 ls []) := by
  have hx := F.1
  have hb := F.2.1
  have hml := F.2.2.2.1
  have hown := F.2.2.2.2.1
  have hts := F.2.2.2.2.2.1
  have hG : ∀ x ∈ gT, x.before args s = true := fun x h => hts x (List.mem_cons_of_mem _ h)
  unfold fXX7_entryHolds_10_0 at hf
  refine lv_aload_n hx hb dX7_entryHolds_0 rfl (lv_at hl 0 rfl) ?_
  refine gw_get (v := .ref (ka K 7)) F inc_X7 hW 10 7 5 (aX_10 K σ) rfl (by decide) (hG _ q_1_175) (fun _ h9 => h9) rfl dX7_entryHolds_1 ?_
  refine lv_iload_n hx hb dX7_entryHolds_4 rfl (lv_at hl 1 rfl) ?_
  obtain ⟨o1, h2, hf⟩ := gw_bind hf
  refine gw_Vi (As := [.int x1]) (mc' := 0) (ms' := 0) F hW (mXX5_entryAt_7 h2) (cwV 1 hts (gT_V q_2_183 q_2_184 q_2_185 q_1_7 q_2_186) rfl rfl rfl hdX5_entryAt ⟨Nat.le_of_ble_eq_true rfl, Nat.le_of_ble_eq_true rfl⟩) 7 5 (aX_7 K σ) rfl rfl hl.1 rfl (Nat.le_of_ble_eq_true rfl) dX7_entryHolds_5 ⟨Nat.le_of_ble_eq_true rfl, Nat.le_of_ble_eq_true rfl⟩ rfl rfl (fun H locs hW => ?_)
  refine lv_istore_n (lv' := [(2, .int o1.1), (0, .ref (ka K 10)), (1, .int x1)]) hx hb dX7_entryHolds_8 rfl hl (by decide) rfl (fun ls hl => ?_)
  refine lv_aload_n hx hb dX7_entryHolds_9 rfl (lv_at hl 1 rfl) ?_
  refine gw_get (v := .ref (ka K 7)) F inc_X7 hW 10 7 5 (aX_10 K o1.2) rfl (by decide) (hG _ q_1_175) (fun _ h9 => h9) rfl dX7_entryHolds_10 ?_
  refine lv_iload_n hx hb dX7_entryHolds_13 rfl (lv_at hl 2 rfl) ?_
  obtain ⟨o4, h5, hf⟩ := gw_bind hf
  refine gw_Vi (As := [.int x1]) (mc' := 0) (ms' := 0) F hW (mXX5_lengthOf_7 h5) (cwV 1 hts (gT_V q_2_187 q_2_188 q_2_189 q_1_7 q_2_190) rfl rfl rfl hdX5_lengthOf ⟨Nat.le_of_ble_eq_true rfl, Nat.le_of_ble_eq_true rfl⟩) 7 5 (aX_7 K o1.2) rfl rfl hl.1 rfl (Nat.le_of_ble_eq_true rfl) dX7_entryHolds_14 ⟨Nat.le_of_ble_eq_true rfl, Nat.le_of_ble_eq_true rfl⟩ rfl rfl (fun H locs hW => ?_)
  refine lv_istore_n (lv' := [(3, .int o4.1), (2, .int o1.1), (0, .ref (ka K 10)), (1, .int x1)]) hx hb dX7_entryHolds_17 rfl hl (by decide) rfl (fun ls hl => ?_)
  refine lv_aload_n hx hb dX7_entryHolds_18 rfl (lv_at hl 2 rfl) ?_
  refine gw_get (v := .ref (ka K 7)) F inc_X7 hW 10 7 5 (aX_10 K o4.2) rfl (by decide) (hG _ q_1_175) (fun _ h9 => h9) rfl dX7_entryHolds_19 ?_
  refine lv_iload_n hx hb dX7_entryHolds_22 rfl (lv_at hl 3 rfl) ?_
  obtain ⟨o7, h8, hf⟩ := gw_bind hf
  refine gw_Vi (As := [.int x1]) (mc' := 0) (ms' := 0) F hW (mXX5_inodeOf_7 h8) (cwV 1 hts (gT_V q_2_192 q_2_193 q_2_194 q_1_7 q_2_195) rfl rfl rfl hdX5_inodeOf ⟨Nat.le_of_ble_eq_true rfl, Nat.le_of_ble_eq_true rfl⟩) 7 5 (aX_7 K o4.2) rfl rfl hl.1 rfl (Nat.le_of_ble_eq_true rfl) dX7_entryHolds_23 ⟨Nat.le_of_ble_eq_true rfl, Nat.le_of_ble_eq_true rfl⟩ rfl rfl (fun H locs hW => ?_)
  refine lv_istore (lv' := [(4, .int o7.1), (3, .int o4.1), (2, .int o1.1), (0, .ref (ka K 10)), (1, .int x1)]) hx hb dX7_entryHolds_26 hl (by decide) rfl (fun ls hl => ?_)
  refine lv_iload_n hx hb dX7_entryHolds_28 rfl (lv_at hl 1 rfl) ?_
  refine lv_bipush (v := (12 : Int32)) hx hb dX7_entryHolds_29 (by decide) ?_
  refine lv_icmp_lt (tgt := 69) hx hb dX7_entryHolds_31 (by decide) (fun c10 => ?_) (fun c10 => ?_)
  · replace hf := (if_pos c10).symm.trans hf
    exact wXX7_entryHolds_10_69 F x1 o1.1 o7.1 _ _ hf _ _ _ (lv_sub hl [3, 4, 2, 0] rfl) hW
  · replace hf := (if_neg c10).symm.trans hf
    refine lv_iload_n hx hb dX7_entryHolds_34 rfl (lv_at hl 1 rfl) ?_
    refine lv_iconst (v := (4 : Int32)) hx hb dX7_entryHolds_35 (by decide) ?_
    refine lv_irem hx hb dX7_entryHolds_36 (by decide) ?_
    refine lv_if_ne (tgt := 69) hx hb dX7_entryHolds_37 (by decide) (fun c33 => ?_) (fun c33 => ?_)
    · replace hf := (if_neg c33).symm.trans hf
      exact wXX7_entryHolds_10_69 F x1 o1.1 o7.1 _ _ hf _ _ _ (lv_sub hl [3, 4, 2, 0] rfl) hW
    · replace hf := (if_pos c33).symm.trans hf
      refine lv_iload_n hx hb dX7_entryHolds_40 rfl (lv_at hl 2 rfl) ?_
      refine lv_sipush (v := (1024 : Int32)) hx hb dX7_entryHolds_41 (by decide) ?_
      refine lv_irem hx hb dX7_entryHolds_44 (by decide) ?_
      refine lv_iload_n hx hb dX7_entryHolds_45 rfl (lv_at hl 1 rfl) ?_
      refine lv_iadd hx hb dX7_entryHolds_46 ?_
      refine lv_sipush (v := (1024 : Int32)) hx hb dX7_entryHolds_47 (by decide) ?_
      refine lv_icmp_gt (tgt := 69) hx hb dX7_entryHolds_50 (by decide) (fun c34 => ?_) (fun c34 => ?_)
      · replace hf := (if_pos c34).symm.trans hf
        exact wXX7_entryHolds_10_69 F x1 o1.1 o7.1 _ _ hf _ _ _ (lv_sub hl [3, 4, 2, 0] rfl) hW
      · replace hf := (if_neg c34).symm.trans hf
        refine lv_iload_n hx hb dX7_entryHolds_53 rfl (lv_at hl 1 rfl) ?_
        refine lv_aload_n hx hb dX7_entryHolds_54 rfl (lv_at hl 3 rfl) ?_
        refine gw_get (v := .ref (ka K 7)) F inc_X7 hW 10 7 5 (aX_10 K o7.2) rfl (by decide) (hG _ q_1_175) (fun _ h9 => h9) rfl dX7_entryHolds_55 ?_
        refine lv_iload_n hx hb dX7_entryHolds_58 rfl (lv_at hl 4 rfl) ?_
        obtain ⟨o35, h36, hf⟩ := gw_bind hf
        refine gw_Vi (As := [.int x1]) (mc' := 0) (ms' := 0) F hW (mXX5_usedBy_7 h36) (cwV 1 hts (gT_V q_2_197 q_2_198 q_2_199 q_1_7 q_2_200) rfl rfl rfl hdX5_usedBy ⟨Nat.le_of_ble_eq_true rfl, Nat.le_of_ble_eq_true rfl⟩) 7 5 (aX_7 K o7.2) rfl rfl hl.1 rfl (Nat.le_of_ble_eq_true rfl) dX7_entryHolds_59 ⟨Nat.le_of_ble_eq_true rfl, Nat.le_of_ble_eq_true rfl⟩ rfl rfl (fun H locs hW => ?_)
        refine lv_icmp_lt (tgt := 69) hx hb dX7_entryHolds_62 (by decide) (fun c38 => ?_) (fun c38 => ?_)
        · replace hf := (if_pos c38).symm.trans hf
          exact wXX7_entryHolds_10_69 F x1 o1.1 o7.1 _ _ hf _ _ _ (lv_sub hl [3, 4, 2, 0] rfl) hW
        · replace hf := (if_neg c38).symm.trans hf
          refine lv_iconst (v := (1 : Int32)) hx hb dX7_entryHolds_65 (by decide) ?_
          refine lv_goto (tgt := 70) hx hb dX7_entryHolds_66 (by decide) ?_
          exact wXX7_entryHolds_10_70 F x1 o1.1 o7.1 (1 : Int32) _ _ hf _ _ _ (lv_sub hl [3, 4, 2, 0] rfl) hW
set_option maxHeartbeats 4000000 in
set_option maxRecDepth 100000 in
theorem mXX7_entryHolds_10 {l : Launch} {K : KX} {σ : XS} {x1 : Int32} {o : (Int32 × XS)} (hf : fXX7_entryHolds_10 (kn K) x1 σ = some o) : gw_Mz l (kD K) vwCl (tyX K) (wX K) yX7_entryHolds wsX7_entryHolds rXX7_entryHolds_10 [.ref (ka K 10), .int x1] σ o := by
  intro sz
  refine gw_body (cc := cX7_entryHolds) (maxL := 8) (yret := some .boolean) (by decide +kernel) rfl ?_ (Nat.le_of_ble_eq_true rfl)
  intro p e s m below meth c F hsz hW ls hl
  exact wXX7_entryHolds_10_0 F x1 σ o hf s.heap [] ls hl hW
abbrev rXX5_letterOf_7 : Room := { frames := 1, cells := 0, slots := 0, locals := 21 }
set_option maxHeartbeats 4000000 in
set_option maxRecDepth 100000 in
theorem wXX5_letterOf_7_30 {p : Program} {l : Launch} {e : Env} {s : State} {m : MethodId} {args : Array Value} {below : List Frame} {meth : Method} {c : Code} {A : Nat → Prop} {K : KX} (F : fx_ p s m args meth c cX5_letterOf 5 (some .int) RX5 wsX5_letterOf) (x2 : Int32) (x3 : Int32) (y0 : Int32) (σ : XS) (o : (Int32 × XS)) (hf : fXX5_letterOf_7_30 (kn K) x2 x3 y0 σ = some o) (H : Heap) (locs : List Loc) (ls : Array Slot) (hl : lv_has ls 5 [(0, .ref (ka K 7)), (2, .int x2), (3, .int x3)]) (hW : gw_ (kD K) vwCl (tyX K) (wX K) A s σ H locs) : W p l e rXX5_letterOf_7 s m args below meth c H locs 0 0 (MQ below (gw_Qi (kD K) vwCl (tyX K) (wX K) A o) args s rXX5_letterOf_7.cells rXX5_letterOf_7.slots A) (F0 m 30 ls [.int y0]) := by
  have hx := F.1
  have hb := F.2.1
  have hml := F.2.2.2.1
  have hown := F.2.2.2.2.1
  have hts := F.2.2.2.2.2.1
  have hG : ∀ x ∈ gT, x.before args s = true := fun x h => hts x (List.mem_cons_of_mem _ h)
  unfold fXX5_letterOf_7_30 at hf
  refine lv_istore (lv' := [(4, .int y0), (0, .ref (ka K 7)), (2, .int x2), (3, .int x3)]) hx hb dX5_letterOf_30 hl (by decide) rfl (fun ls hl => ?_)
  refine lv_iload hx hb dX5_letterOf_32 (lv_at hl 0 rfl) ?_
  refine lv_if_eq (tgt := 53) hx hb dX5_letterOf_34 (by decide) (fun c5 => ?_) (fun c5 => ?_)
  · replace hf := (if_pos c5).symm.trans hf
    refine lv_iconst (v := (-1 : Int32)) hx hb dX5_letterOf_53 (by decide) ?_
    exact gw_reti F hW hf dX5_letterOf_54
  · replace hf := (if_neg c5).symm.trans hf
    refine lv_aload_n hx hb dX5_letterOf_37 rfl (lv_at hl 1 rfl) ?_
    refine gw_get (v := .ref (ka K 1)) F inc_X5 hW 7 5 0 (aX_7 K σ) rfl (by decide) (hG _ q_1_124) (fun _ h9 => h9) rfl dX5_letterOf_38 ?_
    refine lv_iload_n hx hb dX5_letterOf_41 rfl (lv_at hl 3 rfl) ?_
    refine lv_bipush (v := (8 : Int32)) hx hb dX5_letterOf_42 (by decide) ?_
    refine lv_iadd hx hb dX5_letterOf_44 ?_
    refine lv_iload_n hx hb dX5_letterOf_45 rfl (lv_at hl 2 rfl) ?_
    refine lv_iadd hx hb dX5_letterOf_46 ?_
    obtain ⟨o6, h7, hf⟩ := gw_bind hf
    refine gw_Vi (As := [.int ((x3 + (8 : Int32)) + x2)]) (mc' := 0) (ms' := 0) F hW (mXX1_get_1 h7) (cwV 1 hts (gT_V q_2_201 q_2_56 q_2_57 q_1_3 q_2_58) rfl rfl rfl hdX1_get ⟨Nat.le_of_ble_eq_true rfl, Nat.le_of_ble_eq_true rfl⟩) 1 1 (aX_1 K σ) rfl rfl hl.1 rfl (Nat.le_of_ble_eq_true rfl) dX5_letterOf_47 ⟨Nat.le_of_ble_eq_true rfl, Nat.le_of_ble_eq_true rfl⟩ rfl rfl (fun H locs hW => ?_)
    refine lv_goto (tgt := 54) hx hb dX5_letterOf_50 (by decide) ?_
    exact gw_reti F hW hf dX5_letterOf_54
set_option maxHeartbeats 4000000 in
set_option maxRecDepth 100000 in
theorem wXX5_letterOf_7_29 {p : Program} {l : Launch} {e : Env} {s : State} {m : MethodId} {args : Array Value} {below : List Frame} {meth : Method} {c : Code} {A : Nat → Prop} {K : KX} (F : fx_ p s m args meth c cX5_letterOf 5 (some .int) RX5 wsX5_letterOf) (x2 : Int32) (x3 : Int32) (σ : XS) (o : (Int32 × XS)) (hf : fXX5_letterOf_7_29 (kn K) x2 x3 σ = some o) (H : Heap) (locs : List Loc) (ls : Array Slot) (hl : lv_has ls 5 [(0, .ref (ka K 7)), (2, .int x2), (3, .int x3)]) (hW : gw_ (kD K) vwCl (tyX K) (wX K) A s σ H locs) : W p l e rXX5_letterOf_7 s m args below meth c H locs 0 0 (MQ below (gw_Qi (kD K) vwCl (tyX K) (wX K) A o) args s rXX5_letterOf_7.cells rXX5_letterOf_7.slots A) (F0 m 29 ls []) := by
  have hx := F.1
  have hb := F.2.1
  have hml := F.2.2.2.1
  have hown := F.2.2.2.2.1
  have hts := F.2.2.2.2.2.1
  have hG : ∀ x ∈ gT, x.before args s = true := fun x h => hts x (List.mem_cons_of_mem _ h)
  unfold fXX5_letterOf_7_29 at hf
  refine lv_iconst (v := (0 : Int32)) hx hb dX5_letterOf_29 (by decide) ?_
  exact wXX5_letterOf_7_30 F x2 x3 (0 : Int32) _ _ hf _ _ _ (lv_sub hl [0, 1, 2] rfl) hW
set_option maxHeartbeats 4000000 in
set_option maxRecDepth 100000 in
theorem wXX5_letterOf_7_0 {p : Program} {l : Launch} {e : Env} {s : State} {m : MethodId} {args : Array Value} {below : List Frame} {meth : Method} {c : Code} {A : Nat → Prop} {K : KX} (F : fx_ p s m args meth c cX5_letterOf 5 (some .int) RX5 wsX5_letterOf) (x1 : Int32) (x2 : Int32) (σ : XS) (o : (Int32 × XS)) (hf : fXX5_letterOf_7_0 (kn K) x1 x2 σ = some o) (H : Heap) (locs : List Loc) (ls : Array Slot) (hl : lv_has ls 5 [(0, .ref (ka K 7)), (1, .int x1), (2, .int x2)]) (hW : gw_ (kD K) vwCl (tyX K) (wX K) A s σ H locs) : W p l e rXX5_letterOf_7 s m args below meth c H locs 0 0 (MQ below (gw_Qi (kD K) vwCl (tyX K) (wX K) A o) args s rXX5_letterOf_7.cells rXX5_letterOf_7.slots A) (F0 m 0 ls []) := by
  have hx := F.1
  have hb := F.2.1
  have hml := F.2.2.2.1
  have hown := F.2.2.2.2.1
  have hts := F.2.2.2.2.2.1
  have hG : ∀ x ∈ gT, x.before args s = true := fun x h => hts x (List.mem_cons_of_mem _ h)
  unfold fXX5_letterOf_7_0 at hf
  refine lv_aload_n hx hb dX5_letterOf_0 rfl (lv_at hl 0 rfl) ?_
  refine lv_iload_n hx hb dX5_letterOf_1 rfl (lv_at hl 1 rfl) ?_
  obtain ⟨o1, h2, hf⟩ := gw_bind hf
  refine gw_Vi (As := [.int x1]) (mc' := 0) (ms' := 0) F hW (mXX5_entryAt_7 h2) (cwV 1 hts (gT_V q_2_191 q_2_184 q_2_185 q_1_7 q_2_186) rfl rfl rfl hdX5_entryAt ⟨Nat.le_of_ble_eq_true rfl, Nat.le_of_ble_eq_true rfl⟩) 7 5 (aX_7 K σ) rfl rfl hl.1 rfl (Nat.le_of_ble_eq_true rfl) dX5_letterOf_2 ⟨Nat.le_of_ble_eq_true rfl, Nat.le_of_ble_eq_true rfl⟩ rfl rfl (fun H locs hW => ?_)
  refine lv_istore_n (lv' := [(3, .int o1.1), (0, .ref (ka K 7)), (1, .int x1), (2, .int x2)]) hx hb dX5_letterOf_5 rfl hl (by decide) rfl (fun ls hl => ?_)
  refine lv_iload_n hx hb dX5_letterOf_6 rfl (lv_at hl 3 rfl) ?_
  refine lv_if_lt (tgt := 29) hx hb dX5_letterOf_7 (by decide) (fun c4 => ?_) (fun c4 => ?_)
  · replace hf := (if_pos c4).symm.trans hf
    exact wXX5_letterOf_7_29 F x2 o1.1 _ _ hf _ _ _ (lv_sub hl [1, 3, 0] rfl) hW
  · replace hf := (if_neg c4).symm.trans hf
    refine lv_iload_n hx hb dX5_letterOf_10 rfl (lv_at hl 3 rfl) ?_
    refine lv_aload_n hx hb dX5_letterOf_11 rfl (lv_at hl 1 rfl) ?_
    refine gw_get (v := .ref (ka K 1)) F inc_X5 hW 7 5 0 (aX_7 K o1.2) rfl (by decide) (hG _ q_1_124) (fun _ h9 => h9) rfl dX5_letterOf_12 ?_
    refine lv_iload_n hx hb dX5_letterOf_15 rfl (lv_at hl 0 rfl) ?_
    refine lv_bipush (v := (6 : Int32)) hx hb dX5_letterOf_16 (by decide) ?_
    refine lv_iadd hx hb dX5_letterOf_18 ?_
    obtain ⟨o9, h10, hf⟩ := gw_bind hf
    refine gw_Vi (As := [.int (o1.1 + (6 : Int32))]) (mc' := 0) (ms' := 0) F hW (mXX1_get_1 h10) (cwV 1 hts (gT_V q_2_201 q_2_56 q_2_57 q_1_3 q_2_58) rfl rfl rfl hdX1_get ⟨Nat.le_of_ble_eq_true rfl, Nat.le_of_ble_eq_true rfl⟩) 1 1 (aX_1 K o1.2) rfl rfl hl.1 rfl (Nat.le_of_ble_eq_true rfl) dX5_letterOf_19 ⟨Nat.le_of_ble_eq_true rfl, Nat.le_of_ble_eq_true rfl⟩ rfl rfl (fun H locs hW => ?_)
    refine lv_icmp_ge (tgt := 29) hx hb dX5_letterOf_22 (by decide) (fun c12 => ?_) (fun c12 => ?_)
    · replace hf := (if_pos c12).symm.trans hf
      exact wXX5_letterOf_7_29 F x2 o1.1 _ _ hf _ _ _ (lv_sub hl [1, 3, 0] rfl) hW
    · replace hf := (if_neg c12).symm.trans hf
      refine lv_iconst (v := (1 : Int32)) hx hb dX5_letterOf_25 (by decide) ?_
      refine lv_goto (tgt := 30) hx hb dX5_letterOf_26 (by decide) ?_
      exact wXX5_letterOf_7_30 F x2 o1.1 (1 : Int32) _ _ hf _ _ _ (lv_sub hl [1, 3, 0] rfl) hW
set_option maxHeartbeats 4000000 in
set_option maxRecDepth 100000 in
theorem mXX5_letterOf_7 {l : Launch} {K : KX} {σ : XS} {x1 : Int32} {x2 : Int32} {o : (Int32 × XS)} (hf : fXX5_letterOf_7 (kn K) x1 x2 σ = some o) : gw_Mi l (kD K) vwCl (tyX K) (wX K) yX5_letterOf wsX5_letterOf rXX5_letterOf_7 [.ref (ka K 7), .int x1, .int x2] σ o := by
  intro sz
  refine gw_body (cc := cX5_letterOf) (maxL := 5) (yret := some .int) (by decide +kernel) rfl ?_ (Nat.le_of_ble_eq_true rfl)
  intro p e s m below meth c F hsz hW ls hl
  exact wXX5_letterOf_7_0 F x1 x2 σ o hf s.heap [] ls hl hW
abbrev rXX5_parent_7 : Room := { frames := 2, cells := 0, slots := 0, locals := 42 }
set_option maxHeartbeats 4000000 in
set_option maxRecDepth 100000 in
theorem wXX5_parent_7_0 {p : Program} {l : Launch} {e : Env} {s : State} {m : MethodId} {args : Array Value} {below : List Frame} {meth : Method} {c : Code} {A : Nat → Prop} {K : KX} (F : fx_ p s m args meth c cX5_parent 1 (some .int) RX5 wsX5_parent) (σ : XS) (o : (Int32 × XS)) (hf : fXX5_parent_7_0 (kn K) σ = some o) (H : Heap) (locs : List Loc) (ls : Array Slot) (hl : lv_has ls 1 [(0, .ref (ka K 7))]) (hW : gw_ (kD K) vwCl (tyX K) (wX K) A s σ H locs) : W p l e rXX5_parent_7 s m args below meth c H locs 0 0 (MQ below (gw_Qi (kD K) vwCl (tyX K) (wX K) A o) args s rXX5_parent_7.cells rXX5_parent_7.slots A) (F0 m 0 ls []) := by
  have hx := F.1
  have hb := F.2.1
  have hml := F.2.2.2.1
  have hown := F.2.2.2.2.1
  have hts := F.2.2.2.2.2.1
  have hG : ∀ x ∈ gT, x.before args s = true := fun x h => hts x (List.mem_cons_of_mem _ h)
  unfold fXX5_parent_7_0 at hf
  refine lv_aload_n hx hb dX5_parent_0 rfl (lv_at hl 0 rfl) ?_
  refine lv_iconst (v := (1 : Int32)) hx hb dX5_parent_1 (by decide) ?_
  obtain ⟨o1, h2, hf⟩ := gw_bind hf
  refine gw_Vi (As := [.int (1 : Int32)]) (mc' := 0) (ms' := 0) F hW (mXX5_inodeOf_7 h2) (cwV 1 hts (gT_V q_2_218 q_2_193 q_2_194 q_1_7 q_2_195) rfl rfl rfl hdX5_inodeOf ⟨Nat.le_of_ble_eq_true rfl, Nat.le_of_ble_eq_true rfl⟩) 7 5 (aX_7 K σ) rfl rfl hl.1 rfl (Nat.le_of_ble_eq_true rfl) dX5_parent_2 ⟨Nat.le_of_ble_eq_true rfl, Nat.le_of_ble_eq_true rfl⟩ rfl rfl (fun H locs hW => ?_)
  exact gw_reti F hW hf dX5_parent_5
set_option maxHeartbeats 4000000 in
set_option maxRecDepth 100000 in
theorem mXX5_parent_7 {l : Launch} {K : KX} {σ : XS} {o : (Int32 × XS)} (hf : fXX5_parent_7 (kn K) σ = some o) : gw_Mi l (kD K) vwCl (tyX K) (wX K) yX5_parent wsX5_parent rXX5_parent_7 [.ref (ka K 7)] σ o := by
  intro sz
  refine gw_body (cc := cX5_parent) (maxL := 1) (yret := some .int) (by decide +kernel) rfl ?_ (Nat.le_of_ble_eq_true rfl)
  intro p e s m below meth c F hsz hW ls hl
  exact wXX5_parent_7_0 F σ o hf s.heap [] ls hl hW
abbrev rXX7_dotsHold_10 : Room := { frames := 3, cells := 0, slots := 0, locals := 71 }
set_option maxHeartbeats 4000000 in
set_option maxRecDepth 100000 in
theorem wXX7_dotsHold_10_0 {p : Program} {l : Launch} {e : Env} {s : State} {m : MethodId} {args : Array Value} {below : List Frame} {meth : Method} {c : Code} {A : Nat → Prop} {K : KX} (F : fx_ p s m args meth c cX7_dotsHold 2 (some .boolean) RX7 wsX7_dotsHold) (x1 : Int32) (σ : XS) (o : (Int32 × XS)) (hf : fXX7_dotsHold_10_0 (kn K) x1 σ = some o) (H : Heap) (locs : List Loc) (ls : Array Slot) (hl : lv_has ls 2 [(0, .ref (ka K 10)), (1, .int x1)]) (hW : gw_ (kD K) vwCl (tyX K) (wX K) A s σ H locs) : W p l e rXX7_dotsHold_10 s m args below meth c H locs 0 0 (MQ below (va_Qi (fun r u => (r = o.1 ∧ u = o.2) ∧ (o.1 = 0 ∨ o.1 = 1)) (gw_B (kD K) vwCl (tyX K) (wX K) A) A) args s rXX7_dotsHold_10.cells rXX7_dotsHold_10.slots A) (F0 m 0 ls []) := by
  have hx := F.1
  have hb := F.2.1
  have hml := F.2.2.2.1
  have hown := F.2.2.2.2.1
  have hts := F.2.2.2.2.2.1
  have hG : ∀ x ∈ gT, x.before args s = true := fun x h => hts x (List.mem_cons_of_mem _ h)
  unfold fXX7_dotsHold_10_0 at hf
  refine lv_aload_n hx hb dX7_dotsHold_0 rfl (lv_at hl 0 rfl) ?_
  refine gw_get (v := .ref (ka K 7)) F inc_X7 hW 10 7 5 (aX_10 K σ) rfl (by decide) (hG _ q_1_175) (fun _ h9 => h9) rfl dX7_dotsHold_1 ?_
  obtain ⟨o1, h2, hf⟩ := gw_bind hf
  refine gw_Vi (As := []) (mc' := 0) (ms' := 0) F hW (mXX5_count_7 h2) (cwV 0 hts (gT_V q_2_175 q_2_176 q_2_177 q_1_7 q_2_178) rfl rfl rfl hdX5_count ⟨Nat.le_of_ble_eq_true rfl, Nat.le_of_ble_eq_true rfl⟩) 7 5 (aX_7 K σ) rfl rfl hl.1 rfl (Nat.le_of_ble_eq_true rfl) dX7_dotsHold_4 ⟨Nat.le_of_ble_eq_true rfl, Nat.le_of_ble_eq_true rfl⟩ rfl rfl (fun H locs hW => ?_)
  refine lv_iconst (v := (2 : Int32)) hx hb dX7_dotsHold_7 (by decide) ?_
  refine lv_icmp_lt (tgt := 139) hx hb dX7_dotsHold_8 (by decide) (fun c4 => ?_) (fun c4 => ?_)
  · replace hf := (if_pos c4).symm.trans hf
    refine lv_iconst (v := (0 : Int32)) hx hb dX7_dotsHold_139 (by decide) ?_
    exact gw_retz F hW hf (Or.inl rfl) dX7_dotsHold_140
  · replace hf := (if_neg c4).symm.trans hf
    refine lv_aload_n hx hb dX7_dotsHold_11 rfl (lv_at hl 0 rfl) ?_
    refine lv_iconst (v := (0 : Int32)) hx hb dX7_dotsHold_12 (by decide) ?_
    obtain ⟨o5, h6, hf⟩ := gw_bind hf
    refine gw_Vz (As := [.int (0 : Int32)]) (mc' := 0) (ms' := 0) F hW (mXX7_entryHolds_10 h6) (cwV 1 hts (gT_V q_2_179 q_2_181 qp_9 q_1_9 q_2_182) rfl rfl rfl hdX7_entryHolds ⟨Nat.le_of_ble_eq_true rfl, Nat.le_of_ble_eq_true rfl⟩) 10 7 (aX_10 K o1.2) rfl rfl hl.1 rfl (Nat.le_of_ble_eq_true rfl) dX7_dotsHold_13 ⟨Nat.le_of_ble_eq_true rfl, Nat.le_of_ble_eq_true rfl⟩ rfl rfl (fun H locs z7 hW => ?_)
    refine lv_if_eq (tgt := 139) hx hb dX7_dotsHold_16 (by decide) (fun c8 => ?_) (fun c8 => ?_)
    · replace hf := (if_pos c8).symm.trans hf
      refine lv_iconst (v := (0 : Int32)) hx hb dX7_dotsHold_139 (by decide) ?_
      exact gw_retz F hW hf (Or.inl rfl) dX7_dotsHold_140
    · replace hf := (if_neg c8).symm.trans hf
      refine lv_aload_n hx hb dX7_dotsHold_19 rfl (lv_at hl 0 rfl) ?_
      refine lv_iconst (v := (1 : Int32)) hx hb dX7_dotsHold_20 (by decide) ?_
      obtain ⟨o9, h10, hf⟩ := gw_bind hf
      refine gw_Vz (As := [.int (1 : Int32)]) (mc' := 0) (ms' := 0) F hW (mXX7_entryHolds_10 h10) (cwV 1 hts (gT_V q_2_179 q_2_181 qp_9 q_1_9 q_2_182) rfl rfl rfl hdX7_entryHolds ⟨Nat.le_of_ble_eq_true rfl, Nat.le_of_ble_eq_true rfl⟩) 10 7 (aX_10 K o5.2) rfl rfl hl.1 rfl (Nat.le_of_ble_eq_true rfl) dX7_dotsHold_21 ⟨Nat.le_of_ble_eq_true rfl, Nat.le_of_ble_eq_true rfl⟩ rfl rfl (fun H locs z11 hW => ?_)
      refine lv_if_eq (tgt := 139) hx hb dX7_dotsHold_24 (by decide) (fun c12 => ?_) (fun c12 => ?_)
      · replace hf := (if_pos c12).symm.trans hf
        refine lv_iconst (v := (0 : Int32)) hx hb dX7_dotsHold_139 (by decide) ?_
        exact gw_retz F hW hf (Or.inl rfl) dX7_dotsHold_140
      · replace hf := (if_neg c12).symm.trans hf
        refine lv_aload_n hx hb dX7_dotsHold_27 rfl (lv_at hl 0 rfl) ?_
        refine gw_get (v := .ref (ka K 7)) F inc_X7 hW 10 7 5 (aX_10 K o9.2) rfl (by decide) (hG _ q_1_175) (fun _ h9 => h9) rfl dX7_dotsHold_28 ?_
        refine lv_iconst (v := (0 : Int32)) hx hb dX7_dotsHold_31 (by decide) ?_
        obtain ⟨o13, h14, hf⟩ := gw_bind hf
        refine gw_Vi (As := [.int (0 : Int32)]) (mc' := 0) (ms' := 0) F hW (mXX5_inodeOf_7 h14) (cwV 1 hts (gT_V q_2_192 q_2_193 q_2_194 q_1_7 q_2_195) rfl rfl rfl hdX5_inodeOf ⟨Nat.le_of_ble_eq_true rfl, Nat.le_of_ble_eq_true rfl⟩) 7 5 (aX_7 K o9.2) rfl rfl hl.1 rfl (Nat.le_of_ble_eq_true rfl) dX7_dotsHold_32 ⟨Nat.le_of_ble_eq_true rfl, Nat.le_of_ble_eq_true rfl⟩ rfl rfl (fun H locs hW => ?_)
        refine lv_iload_n hx hb dX7_dotsHold_35 rfl (lv_at hl 1 rfl) ?_
        refine lv_icmp_ne (tgt := 139) hx hb dX7_dotsHold_36 (by decide) (fun c16 => ?_) (fun c16 => ?_)
        · replace hf := (if_neg c16).symm.trans hf
          refine lv_iconst (v := (0 : Int32)) hx hb dX7_dotsHold_139 (by decide) ?_
          exact gw_retz F hW hf (Or.inl rfl) dX7_dotsHold_140
        · replace hf := (if_pos c16).symm.trans hf
          refine lv_aload_n hx hb dX7_dotsHold_39 rfl (lv_at hl 0 rfl) ?_
          refine gw_get (v := .ref (ka K 7)) F inc_X7 hW 10 7 5 (aX_10 K o13.2) rfl (by decide) (hG _ q_1_175) (fun _ h9 => h9) rfl dX7_dotsHold_40 ?_
          refine lv_iconst (v := (0 : Int32)) hx hb dX7_dotsHold_43 (by decide) ?_
          obtain ⟨o17, h18, hf⟩ := gw_bind hf
          refine gw_Vi (As := [.int (0 : Int32)]) (mc' := 0) (ms' := 0) F hW (mXX5_lengthOf_7 h18) (cwV 1 hts (gT_V q_2_187 q_2_188 q_2_189 q_1_7 q_2_190) rfl rfl rfl hdX5_lengthOf ⟨Nat.le_of_ble_eq_true rfl, Nat.le_of_ble_eq_true rfl⟩) 7 5 (aX_7 K o13.2) rfl rfl hl.1 rfl (Nat.le_of_ble_eq_true rfl) dX7_dotsHold_44 ⟨Nat.le_of_ble_eq_true rfl, Nat.le_of_ble_eq_true rfl⟩ rfl rfl (fun H locs hW => ?_)
          refine lv_bipush (v := (12 : Int32)) hx hb dX7_dotsHold_47 (by decide) ?_
          refine lv_icmp_ne (tgt := 139) hx hb dX7_dotsHold_49 (by decide) (fun c20 => ?_) (fun c20 => ?_)
          · replace hf := (if_neg c20).symm.trans hf
            refine lv_iconst (v := (0 : Int32)) hx hb dX7_dotsHold_139 (by decide) ?_
            exact gw_retz F hW hf (Or.inl rfl) dX7_dotsHold_140
          · replace hf := (if_pos c20).symm.trans hf
            refine lv_aload_n hx hb dX7_dotsHold_52 rfl (lv_at hl 0 rfl) ?_
            refine gw_get (v := .ref (ka K 7)) F inc_X7 hW 10 7 5 (aX_10 K o17.2) rfl (by decide) (hG _ q_1_175) (fun _ h9 => h9) rfl dX7_dotsHold_53 ?_
            refine lv_iconst (v := (0 : Int32)) hx hb dX7_dotsHold_56 (by decide) ?_
            obtain ⟨o21, h22, hf⟩ := gw_bind hf
            refine gw_Vi (As := [.int (0 : Int32)]) (mc' := 0) (ms' := 0) F hW (mXX5_nameLengthOf_7 h22) (cwV 1 hts (gT_V q_2_205 q_2_206 q_2_207 q_1_7 q_2_208) rfl rfl rfl hdX5_nameLengthOf ⟨Nat.le_of_ble_eq_true rfl, Nat.le_of_ble_eq_true rfl⟩) 7 5 (aX_7 K o17.2) rfl rfl hl.1 rfl (Nat.le_of_ble_eq_true rfl) dX7_dotsHold_57 ⟨Nat.le_of_ble_eq_true rfl, Nat.le_of_ble_eq_true rfl⟩ rfl rfl (fun H locs hW => ?_)
            refine lv_iconst (v := (1 : Int32)) hx hb dX7_dotsHold_60 (by decide) ?_
            refine lv_icmp_ne (tgt := 139) hx hb dX7_dotsHold_61 (by decide) (fun c24 => ?_) (fun c24 => ?_)
            · replace hf := (if_neg c24).symm.trans hf
              refine lv_iconst (v := (0 : Int32)) hx hb dX7_dotsHold_139 (by decide) ?_
              exact gw_retz F hW hf (Or.inl rfl) dX7_dotsHold_140
            · replace hf := (if_pos c24).symm.trans hf
              refine lv_aload_n hx hb dX7_dotsHold_64 rfl (lv_at hl 0 rfl) ?_
              refine gw_get (v := .ref (ka K 7)) F inc_X7 hW 10 7 5 (aX_10 K o21.2) rfl (by decide) (hG _ q_1_175) (fun _ h9 => h9) rfl dX7_dotsHold_65 ?_
              refine lv_iconst (v := (0 : Int32)) hx hb dX7_dotsHold_68 (by decide) ?_
              refine lv_iconst (v := (0 : Int32)) hx hb dX7_dotsHold_69 (by decide) ?_
              obtain ⟨o25, h26, hf⟩ := gw_bind hf
              refine gw_Vi (As := [.int (0 : Int32), .int (0 : Int32)]) (mc' := 0) (ms' := 0) F hW (mXX5_letterOf_7 h26) (cwV 2 hts (gT_V q_2_210 q_2_211 q_2_212 q_1_7 q_2_213) rfl rfl rfl hdX5_letterOf ⟨Nat.le_of_ble_eq_true rfl, Nat.le_of_ble_eq_true rfl⟩) 7 5 (aX_7 K o21.2) rfl rfl hl.1 rfl (Nat.le_of_ble_eq_true rfl) dX7_dotsHold_70 ⟨Nat.le_of_ble_eq_true rfl, Nat.le_of_ble_eq_true rfl⟩ rfl rfl (fun H locs hW => ?_)
              refine lv_bipush (v := (46 : Int32)) hx hb dX7_dotsHold_73 (by decide) ?_
              refine lv_icmp_ne (tgt := 139) hx hb dX7_dotsHold_75 (by decide) (fun c28 => ?_) (fun c28 => ?_)
              · replace hf := (if_neg c28).symm.trans hf
                refine lv_iconst (v := (0 : Int32)) hx hb dX7_dotsHold_139 (by decide) ?_
                exact gw_retz F hW hf (Or.inl rfl) dX7_dotsHold_140
              · replace hf := (if_pos c28).symm.trans hf
                refine lv_aload_n hx hb dX7_dotsHold_78 rfl (lv_at hl 0 rfl) ?_
                refine gw_get (v := .ref (ka K 7)) F inc_X7 hW 10 7 5 (aX_10 K o25.2) rfl (by decide) (hG _ q_1_175) (fun _ h9 => h9) rfl dX7_dotsHold_79 ?_
                refine lv_iconst (v := (1 : Int32)) hx hb dX7_dotsHold_82 (by decide) ?_
                obtain ⟨o29, h30, hf⟩ := gw_bind hf
                refine gw_Vi (As := [.int (1 : Int32)]) (mc' := 0) (ms' := 0) F hW (mXX5_nameLengthOf_7 h30) (cwV 1 hts (gT_V q_2_205 q_2_206 q_2_207 q_1_7 q_2_208) rfl rfl rfl hdX5_nameLengthOf ⟨Nat.le_of_ble_eq_true rfl, Nat.le_of_ble_eq_true rfl⟩) 7 5 (aX_7 K o25.2) rfl rfl hl.1 rfl (Nat.le_of_ble_eq_true rfl) dX7_dotsHold_83 ⟨Nat.le_of_ble_eq_true rfl, Nat.le_of_ble_eq_true rfl⟩ rfl rfl (fun H locs hW => ?_)
                refine lv_iconst (v := (2 : Int32)) hx hb dX7_dotsHold_86 (by decide) ?_
                refine lv_icmp_ne (tgt := 139) hx hb dX7_dotsHold_87 (by decide) (fun c32 => ?_) (fun c32 => ?_)
                · replace hf := (if_neg c32).symm.trans hf
                  refine lv_iconst (v := (0 : Int32)) hx hb dX7_dotsHold_139 (by decide) ?_
                  exact gw_retz F hW hf (Or.inl rfl) dX7_dotsHold_140
                · replace hf := (if_pos c32).symm.trans hf
                  refine lv_aload_n hx hb dX7_dotsHold_90 rfl (lv_at hl 0 rfl) ?_
                  refine gw_get (v := .ref (ka K 7)) F inc_X7 hW 10 7 5 (aX_10 K o29.2) rfl (by decide) (hG _ q_1_175) (fun _ h9 => h9) rfl dX7_dotsHold_91 ?_
                  refine lv_iconst (v := (1 : Int32)) hx hb dX7_dotsHold_94 (by decide) ?_
                  refine lv_iconst (v := (0 : Int32)) hx hb dX7_dotsHold_95 (by decide) ?_
                  obtain ⟨o33, h34, hf⟩ := gw_bind hf
                  refine gw_Vi (As := [.int (1 : Int32), .int (0 : Int32)]) (mc' := 0) (ms' := 0) F hW (mXX5_letterOf_7 h34) (cwV 2 hts (gT_V q_2_210 q_2_211 q_2_212 q_1_7 q_2_213) rfl rfl rfl hdX5_letterOf ⟨Nat.le_of_ble_eq_true rfl, Nat.le_of_ble_eq_true rfl⟩) 7 5 (aX_7 K o29.2) rfl rfl hl.1 rfl (Nat.le_of_ble_eq_true rfl) dX7_dotsHold_96 ⟨Nat.le_of_ble_eq_true rfl, Nat.le_of_ble_eq_true rfl⟩ rfl rfl (fun H locs hW => ?_)
                  refine lv_bipush (v := (46 : Int32)) hx hb dX7_dotsHold_99 (by decide) ?_
                  refine lv_icmp_ne (tgt := 139) hx hb dX7_dotsHold_101 (by decide) (fun c36 => ?_) (fun c36 => ?_)
                  · replace hf := (if_neg c36).symm.trans hf
                    refine lv_iconst (v := (0 : Int32)) hx hb dX7_dotsHold_139 (by decide) ?_
                    exact gw_retz F hW hf (Or.inl rfl) dX7_dotsHold_140
                  · replace hf := (if_pos c36).symm.trans hf
                    refine lv_aload_n hx hb dX7_dotsHold_104 rfl (lv_at hl 0 rfl) ?_
                    refine gw_get (v := .ref (ka K 7)) F inc_X7 hW 10 7 5 (aX_10 K o33.2) rfl (by decide) (hG _ q_1_175) (fun _ h9 => h9) rfl dX7_dotsHold_105 ?_
                    refine lv_iconst (v := (1 : Int32)) hx hb dX7_dotsHold_108 (by decide) ?_
                    refine lv_iconst (v := (1 : Int32)) hx hb dX7_dotsHold_109 (by decide) ?_
                    obtain ⟨o37, h38, hf⟩ := gw_bind hf
                    refine gw_Vi (As := [.int (1 : Int32), .int (1 : Int32)]) (mc' := 0) (ms' := 0) F hW (mXX5_letterOf_7 h38) (cwV 2 hts (gT_V q_2_210 q_2_211 q_2_212 q_1_7 q_2_213) rfl rfl rfl hdX5_letterOf ⟨Nat.le_of_ble_eq_true rfl, Nat.le_of_ble_eq_true rfl⟩) 7 5 (aX_7 K o33.2) rfl rfl hl.1 rfl (Nat.le_of_ble_eq_true rfl) dX7_dotsHold_110 ⟨Nat.le_of_ble_eq_true rfl, Nat.le_of_ble_eq_true rfl⟩ rfl rfl (fun H locs hW => ?_)
                    refine lv_bipush (v := (46 : Int32)) hx hb dX7_dotsHold_113 (by decide) ?_
                    refine lv_icmp_ne (tgt := 139) hx hb dX7_dotsHold_115 (by decide) (fun c40 => ?_) (fun c40 => ?_)
                    · replace hf := (if_neg c40).symm.trans hf
                      refine lv_iconst (v := (0 : Int32)) hx hb dX7_dotsHold_139 (by decide) ?_
                      exact gw_retz F hW hf (Or.inl rfl) dX7_dotsHold_140
                    · replace hf := (if_pos c40).symm.trans hf
                      refine lv_aload_n hx hb dX7_dotsHold_118 rfl (lv_at hl 0 rfl) ?_
                      refine gw_get (v := .ref (ka K 6)) F inc_X7 hW 10 7 4 (aX_10 K o37.2) rfl (by decide) (hG _ q_1_174) (fun _ h9 => h9) rfl dX7_dotsHold_119 ?_
                      refine lv_aload_n hx hb dX7_dotsHold_122 rfl (lv_at hl 0 rfl) ?_
                      refine gw_get (v := .ref (ka K 7)) F inc_X7 hW 10 7 5 (aX_10 K o37.2) rfl (by decide) (hG _ q_1_175) (fun _ h9 => h9) rfl dX7_dotsHold_123 ?_
                      obtain ⟨o41, h42, hf⟩ := gw_bind hf
                      refine gw_Vi (As := []) (mc' := 0) (ms' := 0) F hW (mXX5_parent_7 h42) (cwV 0 hts (gT_V q_2_214 q_2_215 q_2_216 q_1_7 q_2_217) rfl rfl rfl hdX5_parent ⟨Nat.le_of_ble_eq_true rfl, Nat.le_of_ble_eq_true rfl⟩) 7 5 (aX_7 K o37.2) rfl rfl hl.1 rfl (Nat.le_of_ble_eq_true rfl) dX7_dotsHold_126 ⟨Nat.le_of_ble_eq_true rfl, Nat.le_of_ble_eq_true rfl⟩ rfl rfl (fun H locs hW => ?_)
                      obtain ⟨o44, h45, hf⟩ := gw_bind hf
                      refine gw_Vz (As := [.int o41.1]) (mc' := 0) (ms' := 0) F hW (mXX4_isDirectory_6 h45) (cwV 1 hts (gT_V q_2_143 q_2_144 q_2_145 q_1_6 q_2_146) rfl rfl rfl hdX4_isDirectory ⟨Nat.le_of_ble_eq_true rfl, Nat.le_of_ble_eq_true rfl⟩) 6 4 (aX_6 K o41.2) rfl rfl hl.1 rfl (Nat.le_of_ble_eq_true rfl) dX7_dotsHold_129 ⟨Nat.le_of_ble_eq_true rfl, Nat.le_of_ble_eq_true rfl⟩ rfl rfl (fun H locs z46 hW => ?_)
                      refine lv_if_eq (tgt := 139) hx hb dX7_dotsHold_132 (by decide) (fun c47 => ?_) (fun c47 => ?_)
                      · replace hf := (if_pos c47).symm.trans hf
                        refine lv_iconst (v := (0 : Int32)) hx hb dX7_dotsHold_139 (by decide) ?_
                        exact gw_retz F hW hf (Or.inl rfl) dX7_dotsHold_140
                      · replace hf := (if_neg c47).symm.trans hf
                        refine lv_iconst (v := (1 : Int32)) hx hb dX7_dotsHold_135 (by decide) ?_
                        refine lv_goto (tgt := 140) hx hb dX7_dotsHold_136 (by decide) ?_
                        exact gw_retz F hW hf (Or.inr rfl) dX7_dotsHold_140
set_option maxHeartbeats 4000000 in
set_option maxRecDepth 100000 in
theorem mXX7_dotsHold_10 {l : Launch} {K : KX} {σ : XS} {x1 : Int32} {o : (Int32 × XS)} (hf : fXX7_dotsHold_10 (kn K) x1 σ = some o) : gw_Mz l (kD K) vwCl (tyX K) (wX K) yX7_dotsHold wsX7_dotsHold rXX7_dotsHold_10 [.ref (ka K 10), .int x1] σ o := by
  intro sz
  refine gw_body (cc := cX7_dotsHold) (maxL := 2) (yret := some .boolean) (by decide +kernel) rfl ?_ (Nat.le_of_ble_eq_true rfl)
  intro p e s m below meth c F hsz hW ls hl
  exact wXX7_dotsHold_10_0 F x1 σ o hf s.heap [] ls hl hW
abbrev rXX4_links_6 : Room := { frames := 1, cells := 0, slots := 0, locals := 22 }
set_option maxHeartbeats 4000000 in
set_option maxRecDepth 100000 in
theorem wXX4_links_6_0 {p : Program} {l : Launch} {e : Env} {s : State} {m : MethodId} {args : Array Value} {below : List Frame} {meth : Method} {c : Code} {A : Nat → Prop} {K : KX} (F : fx_ p s m args meth c cX4_links 2 (some .int) RX4 wsX4_links) (x1 : Int32) (σ : XS) (o : (Int32 × XS)) (hf : fXX4_links_6_0 (kn K) x1 σ = some o) (H : Heap) (locs : List Loc) (ls : Array Slot) (hl : lv_has ls 2 [(0, .ref (ka K 6)), (1, .int x1)]) (hW : gw_ (kD K) vwCl (tyX K) (wX K) A s σ H locs) : W p l e rXX4_links_6 s m args below meth c H locs 0 0 (MQ below (gw_Qi (kD K) vwCl (tyX K) (wX K) A o) args s rXX4_links_6.cells rXX4_links_6.slots A) (F0 m 0 ls []) := by
  have hx := F.1
  have hb := F.2.1
  have hml := F.2.2.2.1
  have hown := F.2.2.2.2.1
  have hts := F.2.2.2.2.2.1
  have hG : ∀ x ∈ gT, x.before args s = true := fun x h => hts x (List.mem_cons_of_mem _ h)
  unfold fXX4_links_6_0 at hf
  refine lv_aload_n hx hb dX4_links_0 rfl (lv_at hl 0 rfl) ?_
  refine gw_get (v := .ref (ka K 1)) F inc_X4 hW 6 4 0 (aX_6 K σ) rfl (by decide) (hG _ q_1_108) (fun _ h9 => h9) rfl dX4_links_1 ?_
  refine lv_aload_n hx hb dX4_links_4 rfl (lv_at hl 0 rfl) ?_
  refine gw_get (v := .ref (ka K 3)) F inc_X4 hW 6 4 1 (aX_6 K σ) rfl (by decide) (hG _ q_1_109) (fun _ h9 => h9) rfl dX4_links_5 ?_
  refine lv_iload_n hx hb dX4_links_8 rfl (lv_at hl 1 rfl) ?_
  obtain ⟨o1, h2, hf⟩ := gw_bind hf
  refine gw_Vi (As := [.int x1]) (mc' := 0) (ms' := 0) F hW (mXX2_inodeAt_3 h2) (cwV 1 hts (gT_V q_2_147 q_2_101 q_2_102 q_1_4 q_2_103) rfl rfl rfl hdX2_inodeAt ⟨Nat.le_of_ble_eq_true rfl, Nat.le_of_ble_eq_true rfl⟩) 3 2 (aX_3 K σ) rfl rfl hl.1 rfl (Nat.le_of_ble_eq_true rfl) dX4_links_9 ⟨Nat.le_of_ble_eq_true rfl, Nat.le_of_ble_eq_true rfl⟩ rfl rfl (fun H locs hW => ?_)
  refine lv_bipush (v := (26 : Int32)) hx hb dX4_links_12 (by decide) ?_
  refine lv_iadd hx hb dX4_links_14 ?_
  obtain ⟨o4, h5, hf⟩ := gw_bind hf
  refine gw_Vi (As := [.int (o1.1 + (26 : Int32))]) (mc' := 0) (ms' := 0) F hW (mXX1_get2_1 h5) (cwV 1 hts (gT_V q_2_148 q_2_110 q_2_111 q_1_3 q_2_112) rfl rfl rfl hdX1_get2 ⟨Nat.le_of_ble_eq_true rfl, Nat.le_of_ble_eq_true rfl⟩) 1 1 (aX_1 K o1.2) rfl rfl hl.1 rfl (Nat.le_of_ble_eq_true rfl) dX4_links_15 ⟨Nat.le_of_ble_eq_true rfl, Nat.le_of_ble_eq_true rfl⟩ rfl rfl (fun H locs hW => ?_)
  exact gw_reti F hW hf dX4_links_18
set_option maxHeartbeats 4000000 in
set_option maxRecDepth 100000 in
theorem mXX4_links_6 {l : Launch} {K : KX} {σ : XS} {x1 : Int32} {o : (Int32 × XS)} (hf : fXX4_links_6 (kn K) x1 σ = some o) : gw_Mi l (kD K) vwCl (tyX K) (wX K) yX4_links wsX4_links rXX4_links_6 [.ref (ka K 6), .int x1] σ o := by
  intro sz
  refine gw_body (cc := cX4_links) (maxL := 2) (yret := some .int) (by decide +kernel) rfl ?_ (Nat.le_of_ble_eq_true rfl)
  intro p e s m below meth c F hsz hW ls hl
  exact wXX4_links_6_0 F x1 σ o hf s.heap [] ls hl hW
abbrev rXX7_sameName_10 : Room := { frames := 1, cells := 0, slots := 0, locals := 21 }
def PXX7_sameName_10_57 (p : Program) (l : Launch) (e : Env) (s : State) (m : MethodId) (args : Array Value) (below : List Frame) (meth : Method) (c : Code) (A : Nat → Prop) (K : KX) (t : (Int32 × Int32 × Int32 × Int32 × Int32 × XS)) (o : (Int32 × XS)) : Prop := ∀ (H : Heap) (locs : List Loc) (ls : Array Slot), lv_has ls 8 [(0, .ref (ka K 10)), (3, .int t.1), (4, .int t.2.1), (5, .int t.2.2.1), (6, .int t.2.2.2.1), (7, .int t.2.2.2.2.1)] → gw_ (kD K) vwCl (tyX K) (wX K) A s t.2.2.2.2.2 H locs → W p l e rXX7_sameName_10 s m args below meth c H locs 0 0 (MQ below (va_Qi (fun r u => (r = o.1 ∧ u = o.2) ∧ (o.1 = 0 ∨ o.1 = 1)) (gw_B (kD K) vwCl (tyX K) (wX K) A) A) args s rXX7_sameName_10.cells rXX7_sameName_10.slots A) (F0 m 57 ls [])
set_option maxHeartbeats 4000000 in
set_option maxRecDepth 100000 in
theorem wXX7_sameName_10_57 {p : Program} {l : Launch} {e : Env} {s : State} {m : MethodId} {args : Array Value} {below : List Frame} {meth : Method} {c : Code} {A : Nat → Prop} {K : KX} (F : fx_ p s m args meth c cX7_sameName 8 (some .boolean) RX7 wsX7_sameName) {k57 : (Int32 × Int32 × Int32 × Int32 × Int32 × XS) → Option (Int32 × XS)} (hk57 : ∀ t o, k57 t = some o → PXX7_sameName_10_57 p l e s m args below meth c A K t o) (x3 : Int32) (x4 : Int32) (x5 : Int32) (x6 : Int32) (x7 : Int32) (σ : XS) (o : (Int32 × XS)) (hf : fXX7_sameName_10_57 (kn K) k57 x3 x4 x5 x6 x7 σ = some o) (H : Heap) (locs : List Loc) (ls : Array Slot) (hl : lv_has ls 8 [(0, .ref (ka K 10)), (3, .int x3), (4, .int x4), (5, .int x5), (6, .int x6), (7, .int x7)]) (hW : gw_ (kD K) vwCl (tyX K) (wX K) A s σ H locs) : W p l e rXX7_sameName_10 s m args below meth c H locs 0 0 (MQ below (va_Qi (fun r u => (r = o.1 ∧ u = o.2) ∧ (o.1 = 0 ∨ o.1 = 1)) (gw_B (kD K) vwCl (tyX K) (wX K) A) A) args s rXX7_sameName_10.cells rXX7_sameName_10.slots A) (F0 m 57 ls []) := by
  have hx := F.1
  have hb := F.2.1
  have hml := F.2.2.2.1
  have hown := F.2.2.2.2.1
  have hts := F.2.2.2.2.2.1
  have hG : ∀ x ∈ gT, x.before args s = true := fun x h => hts x (List.mem_cons_of_mem _ h)
  unfold fXX7_sameName_10_57 at hf
  refine lv_iload hx hb dX7_sameName_57 (lv_at hl 5 rfl) ?_
  refine lv_iload hx hb dX7_sameName_59 (lv_at hl 3 rfl) ?_
  refine lv_icmp_ge (tgt := 104) hx hb dX7_sameName_61 (by decide) (fun c14 => ?_) (fun c14 => ?_)
  · replace hf := (if_pos c14).symm.trans hf
    refine lv_iconst (v := (1 : Int32)) hx hb dX7_sameName_104 (by decide) ?_
    exact gw_retz F hW hf (Or.inr rfl) dX7_sameName_105
  · replace hf := (if_neg c14).symm.trans hf
    refine lv_aload_n hx hb dX7_sameName_64 rfl (lv_at hl 0 rfl) ?_
    refine gw_get (v := .ref (ka K 1)) F inc_X7 hW 10 7 0 (aX_10 K σ) rfl (by decide) (hG _ q_1_170) (fun _ h9 => h9) rfl dX7_sameName_65 ?_
    refine lv_iload_n hx hb dX7_sameName_68 rfl (lv_at hl 1 rfl) ?_
    refine lv_iload hx hb dX7_sameName_69 (lv_at hl 4 rfl) ?_
    refine lv_iadd hx hb dX7_sameName_71 ?_
    refine lv_iload hx hb dX7_sameName_72 (lv_at hl 5 rfl) ?_
    refine lv_iadd hx hb dX7_sameName_74 ?_
    obtain ⟨o15, h16, hf⟩ := gw_bind hf
    refine gw_Vi (As := [.int ((x3 + x6) + x7)]) (mc' := 0) (ms' := 0) F hW (mXX1_get_1 h16) (cwV 1 hts (gT_V q_2_209 q_2_56 q_2_57 q_1_3 q_2_58) rfl rfl rfl hdX1_get ⟨Nat.le_of_ble_eq_true rfl, Nat.le_of_ble_eq_true rfl⟩) 1 1 (aX_1 K σ) rfl rfl hl.1 rfl (Nat.le_of_ble_eq_true rfl) dX7_sameName_75 ⟨Nat.le_of_ble_eq_true rfl, Nat.le_of_ble_eq_true rfl⟩ rfl rfl (fun H locs hW => ?_)
    refine lv_aload_n hx hb dX7_sameName_78 rfl (lv_at hl 0 rfl) ?_
    refine gw_get (v := .ref (ka K 1)) F inc_X7 hW 10 7 0 (aX_10 K o15.2) rfl (by decide) (hG _ q_1_170) (fun _ h9 => h9) rfl dX7_sameName_79 ?_
    refine lv_iload hx hb dX7_sameName_82 (lv_at hl 2 rfl) ?_
    refine lv_iload hx hb dX7_sameName_84 (lv_at hl 4 rfl) ?_
    refine lv_iadd hx hb dX7_sameName_86 ?_
    refine lv_iload hx hb dX7_sameName_87 (lv_at hl 5 rfl) ?_
    refine lv_iadd hx hb dX7_sameName_89 ?_
    obtain ⟨o18, h19, hf⟩ := gw_bind hf
    refine gw_Vi (As := [.int ((x4 + x6) + x7)]) (mc' := 0) (ms' := 0) F hW (mXX1_get_1 h19) (cwV 1 hts (gT_V q_2_209 q_2_56 q_2_57 q_1_3 q_2_58) rfl rfl rfl hdX1_get ⟨Nat.le_of_ble_eq_true rfl, Nat.le_of_ble_eq_true rfl⟩) 1 1 (aX_1 K o15.2) rfl rfl hl.1 rfl (Nat.le_of_ble_eq_true rfl) dX7_sameName_90 ⟨Nat.le_of_ble_eq_true rfl, Nat.le_of_ble_eq_true rfl⟩ rfl rfl (fun H locs hW => ?_)
    refine lv_icmp_eq (tgt := 98) hx hb dX7_sameName_93 (by decide) (fun c21 => ?_) (fun c21 => ?_)
    · replace hf := (if_pos c21).symm.trans hf
      refine lv_iinc (v := (x7 + (1 : Int32))) (lv' := [(7, .int (x7 + (1 : Int32))), (0, .ref (ka K 10)), (3, .int x3), (4, .int x4), (5, .int x5), (6, .int x6)]) hx hb dX7_sameName_98 hl (k := 5) rfl rfl (by decide) rfl (fun ls hl => ?_)
      refine lv_goto (tgt := 57) hx hb dX7_sameName_101 (by decide) ?_
      exact hk57 _ _ hf _ _ _ (lv_sub hl [1, 2, 3, 4, 5, 0] rfl) hW
    · replace hf := (if_neg c21).symm.trans hf
      refine lv_iconst (v := (0 : Int32)) hx hb dX7_sameName_96 (by decide) ?_
      exact gw_retz F hW hf (Or.inl rfl) dX7_sameName_97
set_option maxHeartbeats 4000000 in
set_option maxRecDepth 100000 in
theorem wXX7_sameName_10_0 {p : Program} {l : Launch} {e : Env} {s : State} {m : MethodId} {args : Array Value} {below : List Frame} {meth : Method} {c : Code} {A : Nat → Prop} {K : KX} (F : fx_ p s m args meth c cX7_sameName 8 (some .boolean) RX7 wsX7_sameName) (x1 : Int32) (x2 : Int32) (σ : XS) (o : (Int32 × XS)) (hf : fXX7_sameName_10_0 (kn K) x1 x2 σ = some o) (H : Heap) (locs : List Loc) (ls : Array Slot) (hl : lv_has ls 8 [(0, .ref (ka K 10)), (1, .int x1), (2, .int x2)]) (hW : gw_ (kD K) vwCl (tyX K) (wX K) A s σ H locs) : W p l e rXX7_sameName_10 s m args below meth c H locs 0 0 (MQ below (va_Qi (fun r u => (r = o.1 ∧ u = o.2) ∧ (o.1 = 0 ∨ o.1 = 1)) (gw_B (kD K) vwCl (tyX K) (wX K) A) A) args s rXX7_sameName_10.cells rXX7_sameName_10.slots A) (F0 m 0 ls []) := by
  have hx := F.1
  have hb := F.2.1
  have hml := F.2.2.2.1
  have hown := F.2.2.2.2.1
  have hts := F.2.2.2.2.2.1
  have hG : ∀ x ∈ gT, x.before args s = true := fun x h => hts x (List.mem_cons_of_mem _ h)
  unfold fXX7_sameName_10_0 at hf
  refine lv_aload_n hx hb dX7_sameName_0 rfl (lv_at hl 0 rfl) ?_
  refine gw_get (v := .ref (ka K 7)) F inc_X7 hW 10 7 5 (aX_10 K σ) rfl (by decide) (hG _ q_1_175) (fun _ h9 => h9) rfl dX7_sameName_1 ?_
  refine lv_iload_n hx hb dX7_sameName_4 rfl (lv_at hl 1 rfl) ?_
  obtain ⟨o1, h2, hf⟩ := gw_bind hf
  refine gw_Vi (As := [.int x1]) (mc' := 0) (ms' := 0) F hW (mXX5_entryAt_7 h2) (cwV 1 hts (gT_V q_2_183 q_2_184 q_2_185 q_1_7 q_2_186) rfl rfl rfl hdX5_entryAt ⟨Nat.le_of_ble_eq_true rfl, Nat.le_of_ble_eq_true rfl⟩) 7 5 (aX_7 K σ) rfl rfl hl.1 rfl (Nat.le_of_ble_eq_true rfl) dX7_sameName_5 ⟨Nat.le_of_ble_eq_true rfl, Nat.le_of_ble_eq_true rfl⟩ rfl rfl (fun H locs hW => ?_)
  refine lv_bipush (v := (6 : Int32)) hx hb dX7_sameName_8 (by decide) ?_
  refine lv_iadd hx hb dX7_sameName_10 ?_
  refine lv_istore_n (lv' := [(3, .int (o1.1 + (6 : Int32))), (0, .ref (ka K 10)), (1, .int x1), (2, .int x2)]) hx hb dX7_sameName_11 rfl hl (by decide) rfl (fun ls hl => ?_)
  refine lv_aload_n hx hb dX7_sameName_12 rfl (lv_at hl 1 rfl) ?_
  refine gw_get (v := .ref (ka K 7)) F inc_X7 hW 10 7 5 (aX_10 K o1.2) rfl (by decide) (hG _ q_1_175) (fun _ h9 => h9) rfl dX7_sameName_13 ?_
  refine lv_iload_n hx hb dX7_sameName_16 rfl (lv_at hl 3 rfl) ?_
  obtain ⟨o4, h5, hf⟩ := gw_bind hf
  refine gw_Vi (As := [.int x2]) (mc' := 0) (ms' := 0) F hW (mXX5_entryAt_7 h5) (cwV 1 hts (gT_V q_2_183 q_2_184 q_2_185 q_1_7 q_2_186) rfl rfl rfl hdX5_entryAt ⟨Nat.le_of_ble_eq_true rfl, Nat.le_of_ble_eq_true rfl⟩) 7 5 (aX_7 K o1.2) rfl rfl hl.1 rfl (Nat.le_of_ble_eq_true rfl) dX7_sameName_17 ⟨Nat.le_of_ble_eq_true rfl, Nat.le_of_ble_eq_true rfl⟩ rfl rfl (fun H locs hW => ?_)
  refine lv_bipush (v := (6 : Int32)) hx hb dX7_sameName_20 (by decide) ?_
  refine lv_iadd hx hb dX7_sameName_22 ?_
  refine lv_istore (lv' := [(4, .int (o4.1 + (6 : Int32))), (3, .int (o1.1 + (6 : Int32))), (0, .ref (ka K 10)), (1, .int x1), (2, .int x2)]) hx hb dX7_sameName_23 hl (by decide) rfl (fun ls hl => ?_)
  refine lv_aload_n hx hb dX7_sameName_25 rfl (lv_at hl 2 rfl) ?_
  refine gw_get (v := .ref (ka K 1)) F inc_X7 hW 10 7 0 (aX_10 K o4.2) rfl (by decide) (hG _ q_1_170) (fun _ h9 => h9) rfl dX7_sameName_26 ?_
  refine lv_iload_n hx hb dX7_sameName_29 rfl (lv_at hl 1 rfl) ?_
  obtain ⟨o7, h8, hf⟩ := gw_bind hf
  refine gw_Vi (As := [.int (o1.1 + (6 : Int32))]) (mc' := 0) (ms' := 0) F hW (mXX1_get_1 h8) (cwV 1 hts (gT_V q_2_209 q_2_56 q_2_57 q_1_3 q_2_58) rfl rfl rfl hdX1_get ⟨Nat.le_of_ble_eq_true rfl, Nat.le_of_ble_eq_true rfl⟩) 1 1 (aX_1 K o4.2) rfl rfl hl.1 rfl (Nat.le_of_ble_eq_true rfl) dX7_sameName_30 ⟨Nat.le_of_ble_eq_true rfl, Nat.le_of_ble_eq_true rfl⟩ rfl rfl (fun H locs hW => ?_)
  refine lv_istore (lv' := [(5, .int o7.1), (4, .int (o4.1 + (6 : Int32))), (3, .int (o1.1 + (6 : Int32))), (0, .ref (ka K 10)), (1, .int x1), (2, .int x2)]) hx hb dX7_sameName_33 hl (by decide) rfl (fun ls hl => ?_)
  refine lv_iload hx hb dX7_sameName_35 (lv_at hl 0 rfl) ?_
  refine lv_aload_n hx hb dX7_sameName_37 rfl (lv_at hl 3 rfl) ?_
  refine gw_get (v := .ref (ka K 1)) F inc_X7 hW 10 7 0 (aX_10 K o7.2) rfl (by decide) (hG _ q_1_170) (fun _ h9 => h9) rfl dX7_sameName_38 ?_
  refine lv_iload hx hb dX7_sameName_41 (lv_at hl 1 rfl) ?_
  obtain ⟨o10, h11, hf⟩ := gw_bind hf
  refine gw_Vi (As := [.int (o4.1 + (6 : Int32))]) (mc' := 0) (ms' := 0) F hW (mXX1_get_1 h11) (cwV 1 hts (gT_V q_2_209 q_2_56 q_2_57 q_1_3 q_2_58) rfl rfl rfl hdX1_get ⟨Nat.le_of_ble_eq_true rfl, Nat.le_of_ble_eq_true rfl⟩) 1 1 (aX_1 K o7.2) rfl rfl hl.1 rfl (Nat.le_of_ble_eq_true rfl) dX7_sameName_43 ⟨Nat.le_of_ble_eq_true rfl, Nat.le_of_ble_eq_true rfl⟩ rfl rfl (fun H locs hW => ?_)
  refine lv_icmp_eq (tgt := 51) hx hb dX7_sameName_46 (by decide) (fun c13 => ?_) (fun c13 => ?_)
  · replace hf := (if_pos c13).symm.trans hf
    refine lv_iconst (v := (2 : Int32)) hx hb dX7_sameName_51 (by decide) ?_
    refine lv_istore (lv' := [(6, .int (2 : Int32)), (5, .int o7.1), (4, .int (o4.1 + (6 : Int32))), (3, .int (o1.1 + (6 : Int32))), (0, .ref (ka K 10)), (1, .int x1), (2, .int x2)]) hx hb dX7_sameName_52 hl (by decide) rfl (fun ls hl => ?_)
    refine lv_iconst (v := (0 : Int32)) hx hb dX7_sameName_54 (by decide) ?_
    refine lv_istore (lv' := [(7, .int (0 : Int32)), (6, .int (2 : Int32)), (5, .int o7.1), (4, .int (o4.1 + (6 : Int32))), (3, .int (o1.1 + (6 : Int32))), (0, .ref (ka K 10)), (1, .int x1), (2, .int x2)]) hx hb dX7_sameName_55 hl (by decide) rfl (fun ls hl => ?_)
    exact lfix_ind (P := PXX7_sameName_10_57 p l e s m args below meth c A K) (fun k57 hk57 t o hf => wXX7_sameName_10_57 F hk57 t.1 t.2.1 t.2.2.1 t.2.2.2.1 t.2.2.2.2.1 t.2.2.2.2.2 o hf) FU _ _ hf _ _ _ (lv_sub hl [5, 4, 3, 2, 1, 0] rfl) hW
  · replace hf := (if_neg c13).symm.trans hf
    refine lv_iconst (v := (0 : Int32)) hx hb dX7_sameName_49 (by decide) ?_
    exact gw_retz F hW hf (Or.inl rfl) dX7_sameName_50
set_option maxHeartbeats 4000000 in
set_option maxRecDepth 100000 in
theorem mXX7_sameName_10 {l : Launch} {K : KX} {σ : XS} {x1 : Int32} {x2 : Int32} {o : (Int32 × XS)} (hf : fXX7_sameName_10 (kn K) x1 x2 σ = some o) : gw_Mz l (kD K) vwCl (tyX K) (wX K) yX7_sameName wsX7_sameName rXX7_sameName_10 [.ref (ka K 10), .int x1, .int x2] σ o := by
  intro sz
  refine gw_body (cc := cX7_sameName) (maxL := 8) (yret := some .boolean) (by decide +kernel) rfl ?_ (Nat.le_of_ble_eq_true rfl)
  intro p e s m below meth c F hsz hW ls hl
  exact wXX7_sameName_10_0 F x1 x2 σ o hf s.heap [] ls hl hW
abbrev rXX7_nameHolds_10 : Room := { frames := 2, cells := 0, slots := 0, locals := 48 }
def PXX7_nameHolds_10_49 (p : Program) (l : Launch) (e : Env) (s : State) (m : MethodId) (args : Array Value) (below : List Frame) (meth : Method) (c : Code) (A : Nat → Prop) (K : KX) (t : (Int32 × Int32 × Int32 × XS)) (o : (Int32 × XS)) : Prop := ∀ (H : Heap) (locs : List Loc) (ls : Array Slot), lv_has ls 5 [(0, .ref (ka K 10)), (1, .int t.1), (2, .int t.2.1), (3, .int t.2.2.1)] → gw_ (kD K) vwCl (tyX K) (wX K) A s t.2.2.2 H locs → W p l e rXX7_nameHolds_10 s m args below meth c H locs 0 0 (MQ below (va_Qi (fun r u => (r = o.1 ∧ u = o.2) ∧ (o.1 = 0 ∨ o.1 = 1)) (gw_B (kD K) vwCl (tyX K) (wX K) A) A) args s rXX7_nameHolds_10.cells rXX7_nameHolds_10.slots A) (F0 m 49 ls [])
def PXX7_nameHolds_10_11 (p : Program) (l : Launch) (e : Env) (s : State) (m : MethodId) (args : Array Value) (below : List Frame) (meth : Method) (c : Code) (A : Nat → Prop) (K : KX) (t : (Int32 × Int32 × Int32 × XS)) (o : (Int32 × XS)) : Prop := ∀ (H : Heap) (locs : List Loc) (ls : Array Slot), lv_has ls 5 [(0, .ref (ka K 10)), (1, .int t.1), (2, .int t.2.1), (3, .int t.2.2.1)] → gw_ (kD K) vwCl (tyX K) (wX K) A s t.2.2.2 H locs → W p l e rXX7_nameHolds_10 s m args below meth c H locs 0 0 (MQ below (va_Qi (fun r u => (r = o.1 ∧ u = o.2) ∧ (o.1 = 0 ∨ o.1 = 1)) (gw_B (kD K) vwCl (tyX K) (wX K) A) A) args s rXX7_nameHolds_10.cells rXX7_nameHolds_10.slots A) (F0 m 11 ls [])
set_option maxHeartbeats 4000000 in
set_option maxRecDepth 100000 in
theorem wXX7_nameHolds_10_76 {p : Program} {l : Launch} {e : Env} {s : State} {m : MethodId} {args : Array Value} {below : List Frame} {meth : Method} {c : Code} {A : Nat → Prop} {K : KX} (F : fx_ p s m args meth c cX7_nameHolds 5 (some .boolean) RX7 wsX7_nameHolds) {k49 : (Int32 × Int32 × Int32 × XS) → Option (Int32 × XS)} (hk49 : ∀ t o, k49 t = some o → PXX7_nameHolds_10_49 p l e s m args below meth c A K t o) (x1 : Int32) (x2 : Int32) (x3 : Int32) (σ : XS) (o : (Int32 × XS)) (hf : fXX7_nameHolds_10_76 (kn K) k49 x1 x2 x3 σ = some o) (H : Heap) (locs : List Loc) (ls : Array Slot) (hl : lv_has ls 5 [(0, .ref (ka K 10)), (1, .int x1), (2, .int x2), (3, .int x3)]) (hW : gw_ (kD K) vwCl (tyX K) (wX K) A s σ H locs) : W p l e rXX7_nameHolds_10 s m args below meth c H locs 0 0 (MQ below (va_Qi (fun r u => (r = o.1 ∧ u = o.2) ∧ (o.1 = 0 ∨ o.1 = 1)) (gw_B (kD K) vwCl (tyX K) (wX K) A) A) args s rXX7_nameHolds_10.cells rXX7_nameHolds_10.slots A) (F0 m 76 ls []) := by
  have hx := F.1
  have hb := F.2.1
  have hml := F.2.2.2.1
  have hown := F.2.2.2.2.1
  have hts := F.2.2.2.2.2.1
  have hG : ∀ x ∈ gT, x.before args s = true := fun x h => hts x (List.mem_cons_of_mem _ h)
  unfold fXX7_nameHolds_10_76 at hf
  refine lv_iinc (v := (x3 + (1 : Int32))) (lv' := [(3, .int (x3 + (1 : Int32))), (0, .ref (ka K 10)), (1, .int x1), (2, .int x2)]) hx hb dX7_nameHolds_76 hl (k := 3) rfl rfl (by decide) rfl (fun ls hl => ?_)
  refine lv_goto (tgt := 49) hx hb dX7_nameHolds_79 (by decide) ?_
  exact hk49 _ _ hf _ _ _ (lv_sub hl [1, 2, 3, 0] rfl) hW
set_option maxHeartbeats 4000000 in
set_option maxRecDepth 100000 in
theorem wXX7_nameHolds_10_49 {p : Program} {l : Launch} {e : Env} {s : State} {m : MethodId} {args : Array Value} {below : List Frame} {meth : Method} {c : Code} {A : Nat → Prop} {K : KX} (F : fx_ p s m args meth c cX7_nameHolds 5 (some .boolean) RX7 wsX7_nameHolds) {k49 : (Int32 × Int32 × Int32 × XS) → Option (Int32 × XS)} (hk49 : ∀ t o, k49 t = some o → PXX7_nameHolds_10_49 p l e s m args below meth c A K t o) (x1 : Int32) (x2 : Int32) (x3 : Int32) (σ : XS) (o : (Int32 × XS)) (hf : fXX7_nameHolds_10_49 (kn K) k49 x1 x2 x3 σ = some o) (H : Heap) (locs : List Loc) (ls : Array Slot) (hl : lv_has ls 5 [(0, .ref (ka K 10)), (1, .int x1), (2, .int x2), (3, .int x3)]) (hW : gw_ (kD K) vwCl (tyX K) (wX K) A s σ H locs) : W p l e rXX7_nameHolds_10 s m args below meth c H locs 0 0 (MQ below (va_Qi (fun r u => (r = o.1 ∧ u = o.2) ∧ (o.1 = 0 ∨ o.1 = 1)) (gw_B (kD K) vwCl (tyX K) (wX K) A) A) args s rXX7_nameHolds_10.cells rXX7_nameHolds_10.slots A) (F0 m 49 ls []) := by
  have hx := F.1
  have hb := F.2.1
  have hml := F.2.2.2.1
  have hown := F.2.2.2.2.1
  have hts := F.2.2.2.2.2.1
  have hG : ∀ x ∈ gT, x.before args s = true := fun x h => hts x (List.mem_cons_of_mem _ h)
  unfold fXX7_nameHolds_10_49 at hf
  refine lv_iload_n hx hb dX7_nameHolds_49 rfl (lv_at hl 3 rfl) ?_
  refine lv_iload_n hx hb dX7_nameHolds_50 rfl (lv_at hl 1 rfl) ?_
  refine lv_icmp_ge (tgt := 82) hx hb dX7_nameHolds_51 (by decide) (fun c5 => ?_) (fun c5 => ?_)
  · replace hf := (if_pos c5).symm.trans hf
    refine lv_iload_n hx hb dX7_nameHolds_82 rfl (lv_at hl 2 rfl) ?_
    refine lv_if_le (tgt := 90) hx hb dX7_nameHolds_83 (by decide) (fun c6 => ?_) (fun c6 => ?_)
    · replace hf := (if_pos c6).symm.trans hf
      refine lv_iconst (v := (0 : Int32)) hx hb dX7_nameHolds_90 (by decide) ?_
      exact gw_retz F hW hf (Or.inl rfl) dX7_nameHolds_91
    · replace hf := (if_neg c6).symm.trans hf
      refine lv_iconst (v := (1 : Int32)) hx hb dX7_nameHolds_86 (by decide) ?_
      refine lv_goto (tgt := 91) hx hb dX7_nameHolds_87 (by decide) ?_
      exact gw_retz F hW hf (Or.inr rfl) dX7_nameHolds_91
  · replace hf := (if_neg c5).symm.trans hf
    refine lv_aload_n hx hb dX7_nameHolds_54 rfl (lv_at hl 0 rfl) ?_
    refine gw_get (v := .ref (ka K 7)) F inc_X7 hW 10 7 5 (aX_10 K σ) rfl (by decide) (hG _ q_1_175) (fun _ h9 => h9) rfl dX7_nameHolds_55 ?_
    refine lv_iload_n hx hb dX7_nameHolds_58 rfl (lv_at hl 3 rfl) ?_
    obtain ⟨o7, h8, hf⟩ := gw_bind hf
    refine gw_Vi (As := [.int x3]) (mc' := 0) (ms' := 0) F hW (mXX5_inodeOf_7 h8) (cwV 1 hts (gT_V q_2_192 q_2_193 q_2_194 q_1_7 q_2_195) rfl rfl rfl hdX5_inodeOf ⟨Nat.le_of_ble_eq_true rfl, Nat.le_of_ble_eq_true rfl⟩) 7 5 (aX_7 K σ) rfl rfl hl.1 rfl (Nat.le_of_ble_eq_true rfl) dX7_nameHolds_59 ⟨Nat.le_of_ble_eq_true rfl, Nat.le_of_ble_eq_true rfl⟩ rfl rfl (fun H locs hW => ?_)
    refine lv_if_eq (tgt := 76) hx hb dX7_nameHolds_62 (by decide) (fun c10 => ?_) (fun c10 => ?_)
    · replace hf := (if_pos c10).symm.trans hf
      exact wXX7_nameHolds_10_76 F hk49 x1 x2 x3 _ _ hf _ _ _ (lv_sub hl [0, 1, 2, 3] rfl) hW
    · replace hf := (if_neg c10).symm.trans hf
      refine lv_aload_n hx hb dX7_nameHolds_65 rfl (lv_at hl 0 rfl) ?_
      refine lv_iload_n hx hb dX7_nameHolds_66 rfl (lv_at hl 3 rfl) ?_
      refine lv_iload_n hx hb dX7_nameHolds_67 rfl (lv_at hl 1 rfl) ?_
      obtain ⟨o11, h12, hf⟩ := gw_bind hf
      refine gw_Vz (As := [.int x3, .int x1]) (mc' := 0) (ms' := 0) F hW (mXX7_sameName_10 h12) (cwV 2 hts (gT_V q_2_227 q_2_229 qp_12 q_1_9 q_2_230) rfl rfl rfl hdX7_sameName ⟨Nat.le_of_ble_eq_true rfl, Nat.le_of_ble_eq_true rfl⟩) 10 7 (aX_10 K o7.2) rfl rfl hl.1 rfl (Nat.le_of_ble_eq_true rfl) dX7_nameHolds_68 ⟨Nat.le_of_ble_eq_true rfl, Nat.le_of_ble_eq_true rfl⟩ rfl rfl (fun H locs z13 hW => ?_)
      refine lv_if_eq (tgt := 76) hx hb dX7_nameHolds_71 (by decide) (fun c14 => ?_) (fun c14 => ?_)
      · replace hf := (if_pos c14).symm.trans hf
        exact wXX7_nameHolds_10_76 F hk49 x1 x2 x3 _ _ hf _ _ _ (lv_sub hl [0, 1, 2, 3] rfl) hW
      · replace hf := (if_neg c14).symm.trans hf
        refine lv_iconst (v := (0 : Int32)) hx hb dX7_nameHolds_74 (by decide) ?_
        exact gw_retz F hW hf (Or.inl rfl) dX7_nameHolds_75
set_option maxHeartbeats 4000000 in
set_option maxRecDepth 100000 in
theorem wXX7_nameHolds_10_11 {p : Program} {l : Launch} {e : Env} {s : State} {m : MethodId} {args : Array Value} {below : List Frame} {meth : Method} {c : Code} {A : Nat → Prop} {K : KX} (F : fx_ p s m args meth c cX7_nameHolds 5 (some .boolean) RX7 wsX7_nameHolds) {k11 : (Int32 × Int32 × Int32 × XS) → Option (Int32 × XS)} (hk11 : ∀ t o, k11 t = some o → PXX7_nameHolds_10_11 p l e s m args below meth c A K t o) (x1 : Int32) (x2 : Int32) (x3 : Int32) (σ : XS) (o : (Int32 × XS)) (hf : fXX7_nameHolds_10_11 (kn K) k11 x1 x2 x3 σ = some o) (H : Heap) (locs : List Loc) (ls : Array Slot) (hl : lv_has ls 5 [(0, .ref (ka K 10)), (1, .int x1), (2, .int x2), (3, .int x3)]) (hW : gw_ (kD K) vwCl (tyX K) (wX K) A s σ H locs) : W p l e rXX7_nameHolds_10 s m args below meth c H locs 0 0 (MQ below (va_Qi (fun r u => (r = o.1 ∧ u = o.2) ∧ (o.1 = 0 ∨ o.1 = 1)) (gw_B (kD K) vwCl (tyX K) (wX K) A) A) args s rXX7_nameHolds_10.cells rXX7_nameHolds_10.slots A) (F0 m 11 ls []) := by
  have hx := F.1
  have hb := F.2.1
  have hml := F.2.2.2.1
  have hown := F.2.2.2.2.1
  have hts := F.2.2.2.2.2.1
  have hG : ∀ x ∈ gT, x.before args s = true := fun x h => hts x (List.mem_cons_of_mem _ h)
  unfold fXX7_nameHolds_10_11 at hf
  refine lv_iload_n hx hb dX7_nameHolds_11 rfl (lv_at hl 3 rfl) ?_
  refine lv_iload_n hx hb dX7_nameHolds_12 rfl (lv_at hl 2 rfl) ?_
  refine lv_icmp_ge (tgt := 47) hx hb dX7_nameHolds_13 (by decide) (fun c4 => ?_) (fun c4 => ?_)
  · replace hf := (if_pos c4).symm.trans hf
    refine lv_iconst (v := (0 : Int32)) hx hb dX7_nameHolds_47 (by decide) ?_
    refine lv_istore_n (lv' := [(3, .int (0 : Int32)), (0, .ref (ka K 10)), (1, .int x1), (2, .int x2)]) hx hb dX7_nameHolds_48 rfl hl (by decide) rfl (fun ls hl => ?_)
    exact lfix_ind (P := PXX7_nameHolds_10_49 p l e s m args below meth c A K) (fun k49 hk49 t o hf => wXX7_nameHolds_10_49 F hk49 t.1 t.2.1 t.2.2.1 t.2.2.2 o hf) FU _ _ hf _ _ _ (lv_sub hl [1, 2, 3, 0] rfl) hW
  · replace hf := (if_neg c4).symm.trans hf
    refine lv_aload_n hx hb dX7_nameHolds_16 rfl (lv_at hl 0 rfl) ?_
    refine gw_get (v := .ref (ka K 7)) F inc_X7 hW 10 7 5 (aX_10 K σ) rfl (by decide) (hG _ q_1_175) (fun _ h9 => h9) rfl dX7_nameHolds_17 ?_
    refine lv_iload_n hx hb dX7_nameHolds_20 rfl (lv_at hl 1 rfl) ?_
    refine lv_iload_n hx hb dX7_nameHolds_21 rfl (lv_at hl 3 rfl) ?_
    obtain ⟨o15, h16, hf⟩ := gw_bind hf
    refine gw_Vi (As := [.int x1, .int x3]) (mc' := 0) (ms' := 0) F hW (mXX5_letterOf_7 h16) (cwV 2 hts (gT_V q_2_210 q_2_211 q_2_212 q_1_7 q_2_213) rfl rfl rfl hdX5_letterOf ⟨Nat.le_of_ble_eq_true rfl, Nat.le_of_ble_eq_true rfl⟩) 7 5 (aX_7 K σ) rfl rfl hl.1 rfl (Nat.le_of_ble_eq_true rfl) dX7_nameHolds_22 ⟨Nat.le_of_ble_eq_true rfl, Nat.le_of_ble_eq_true rfl⟩ rfl rfl (fun H locs hW => ?_)
    refine lv_istore (lv' := [(4, .int o15.1), (0, .ref (ka K 10)), (1, .int x1), (2, .int x2), (3, .int x3)]) hx hb dX7_nameHolds_25 hl (by decide) rfl (fun ls hl => ?_)
    refine lv_iload hx hb dX7_nameHolds_27 (lv_at hl 0 rfl) ?_
    refine lv_if_eq (tgt := 39) hx hb dX7_nameHolds_29 (by decide) (fun c18 => ?_) (fun c18 => ?_)
    · replace hf := (if_pos c18).symm.trans hf
      refine lv_iconst (v := (0 : Int32)) hx hb dX7_nameHolds_39 (by decide) ?_
      exact gw_retz F hW hf (Or.inl rfl) dX7_nameHolds_40
    · replace hf := (if_neg c18).symm.trans hf
      refine lv_iload hx hb dX7_nameHolds_32 (lv_at hl 0 rfl) ?_
      refine lv_bipush (v := (47 : Int32)) hx hb dX7_nameHolds_34 (by decide) ?_
      refine lv_icmp_ne (tgt := 41) hx hb dX7_nameHolds_36 (by decide) (fun c19 => ?_) (fun c19 => ?_)
      · replace hf := (if_neg c19).symm.trans hf
        refine lv_iinc (v := (x3 + (1 : Int32))) (lv' := [(3, .int (x3 + (1 : Int32))), (4, .int o15.1), (0, .ref (ka K 10)), (1, .int x1), (2, .int x2)]) hx hb dX7_nameHolds_41 hl (k := 4) rfl rfl (by decide) rfl (fun ls hl => ?_)
        refine lv_goto (tgt := 11) hx hb dX7_nameHolds_44 (by decide) ?_
        exact hk11 _ _ hf _ _ _ (lv_sub hl [2, 3, 4, 0] rfl) hW
      · replace hf := (if_pos c19).symm.trans hf
        refine lv_iconst (v := (0 : Int32)) hx hb dX7_nameHolds_39 (by decide) ?_
        exact gw_retz F hW hf (Or.inl rfl) dX7_nameHolds_40
set_option maxHeartbeats 4000000 in
set_option maxRecDepth 100000 in
theorem wXX7_nameHolds_10_0 {p : Program} {l : Launch} {e : Env} {s : State} {m : MethodId} {args : Array Value} {below : List Frame} {meth : Method} {c : Code} {A : Nat → Prop} {K : KX} (F : fx_ p s m args meth c cX7_nameHolds 5 (some .boolean) RX7 wsX7_nameHolds) (x1 : Int32) (σ : XS) (o : (Int32 × XS)) (hf : fXX7_nameHolds_10_0 (kn K) x1 σ = some o) (H : Heap) (locs : List Loc) (ls : Array Slot) (hl : lv_has ls 5 [(0, .ref (ka K 10)), (1, .int x1)]) (hW : gw_ (kD K) vwCl (tyX K) (wX K) A s σ H locs) : W p l e rXX7_nameHolds_10 s m args below meth c H locs 0 0 (MQ below (va_Qi (fun r u => (r = o.1 ∧ u = o.2) ∧ (o.1 = 0 ∨ o.1 = 1)) (gw_B (kD K) vwCl (tyX K) (wX K) A) A) args s rXX7_nameHolds_10.cells rXX7_nameHolds_10.slots A) (F0 m 0 ls []) := by
  have hx := F.1
  have hb := F.2.1
  have hml := F.2.2.2.1
  have hown := F.2.2.2.2.1
  have hts := F.2.2.2.2.2.1
  have hG : ∀ x ∈ gT, x.before args s = true := fun x h => hts x (List.mem_cons_of_mem _ h)
  unfold fXX7_nameHolds_10_0 at hf
  refine lv_aload_n hx hb dX7_nameHolds_0 rfl (lv_at hl 0 rfl) ?_
  refine gw_get (v := .ref (ka K 7)) F inc_X7 hW 10 7 5 (aX_10 K σ) rfl (by decide) (hG _ q_1_175) (fun _ h9 => h9) rfl dX7_nameHolds_1 ?_
  refine lv_iload_n hx hb dX7_nameHolds_4 rfl (lv_at hl 1 rfl) ?_
  obtain ⟨o1, h2, hf⟩ := gw_bind hf
  refine gw_Vi (As := [.int x1]) (mc' := 0) (ms' := 0) F hW (mXX5_nameLengthOf_7 h2) (cwV 1 hts (gT_V q_2_205 q_2_206 q_2_207 q_1_7 q_2_208) rfl rfl rfl hdX5_nameLengthOf ⟨Nat.le_of_ble_eq_true rfl, Nat.le_of_ble_eq_true rfl⟩) 7 5 (aX_7 K σ) rfl rfl hl.1 rfl (Nat.le_of_ble_eq_true rfl) dX7_nameHolds_5 ⟨Nat.le_of_ble_eq_true rfl, Nat.le_of_ble_eq_true rfl⟩ rfl rfl (fun H locs hW => ?_)
  refine lv_istore_n (lv' := [(2, .int o1.1), (0, .ref (ka K 10)), (1, .int x1)]) hx hb dX7_nameHolds_8 rfl hl (by decide) rfl (fun ls hl => ?_)
  refine lv_iconst (v := (0 : Int32)) hx hb dX7_nameHolds_9 (by decide) ?_
  refine lv_istore_n (lv' := [(3, .int (0 : Int32)), (2, .int o1.1), (0, .ref (ka K 10)), (1, .int x1)]) hx hb dX7_nameHolds_10 rfl hl (by decide) rfl (fun ls hl => ?_)
  exact lfix_ind (P := PXX7_nameHolds_10_11 p l e s m args below meth c A K) (fun k11 hk11 t o hf => wXX7_nameHolds_10_11 F hk11 t.1 t.2.1 t.2.2.1 t.2.2.2 o hf) FU _ _ hf _ _ _ (lv_sub hl [2, 3, 1, 0] rfl) hW
set_option maxHeartbeats 4000000 in
set_option maxRecDepth 100000 in
theorem mXX7_nameHolds_10 {l : Launch} {K : KX} {σ : XS} {x1 : Int32} {o : (Int32 × XS)} (hf : fXX7_nameHolds_10 (kn K) x1 σ = some o) : gw_Mz l (kD K) vwCl (tyX K) (wX K) yX7_nameHolds wsX7_nameHolds rXX7_nameHolds_10 [.ref (ka K 10), .int x1] σ o := by
  intro sz
  refine gw_body (cc := cX7_nameHolds) (maxL := 5) (yret := some .boolean) (by decide +kernel) rfl ?_ (Nat.le_of_ble_eq_true rfl)
  intro p e s m below meth c F hsz hW ls hl
  exact wXX7_nameHolds_10_0 F x1 σ o hf s.heap [] ls hl hW
abbrev rXX7_hold_10 : Room := { frames := 1, cells := 0, slots := 0, locals := 20 }
set_option maxHeartbeats 4000000 in
set_option maxRecDepth 100000 in
theorem wXX7_hold_10_0 {p : Program} {l : Launch} {e : Env} {s : State} {m : MethodId} {args : Array Value} {below : List Frame} {meth : Method} {c : Code} {A : Nat → Prop} {K : KX} (F : fx_ p s m args meth c cX7_hold 3 (some .boolean) RX7 wsX7_hold) (x1 : Int32) (x2 : Int32) (σ : XS) (o : (Int32 × XS)) (hf : fXX7_hold_10_0 (kn K) x1 x2 σ = some o) (H : Heap) (locs : List Loc) (ls : Array Slot) (hl : lv_has ls 3 [(0, .ref (ka K 10)), (1, .int x1), (2, .int x2)]) (hW : gw_ (kD K) vwCl (tyX K) (wX K) A s σ H locs) : W p l e rXX7_hold_10 s m args below meth c H locs 0 0 (MQ below (va_Qi (fun r u => (r = o.1 ∧ u = o.2) ∧ (o.1 = 0 ∨ o.1 = 1)) (gw_B (kD K) vwCl (tyX K) (wX K) A) A) args s rXX7_hold_10.cells rXX7_hold_10.slots A) (F0 m 0 ls []) := by
  have hx := F.1
  have hb := F.2.1
  have hml := F.2.2.2.1
  have hown := F.2.2.2.2.1
  have hts := F.2.2.2.2.2.1
  have hG : ∀ x ∈ gT, x.before args s = true := fun x h => hts x (List.mem_cons_of_mem _ h)
  unfold fXX7_hold_10_0 at hf
  refine lv_iload_n hx hb dX7_hold_0 rfl (lv_at hl 1 rfl) ?_
  refine lv_bipush (v := (11 : Int32)) hx hb dX7_hold_1 (by decide) ?_
  refine lv_icmp_le (tgt := 35) hx hb dX7_hold_3 (by decide) (fun c1 => ?_) (fun c1 => ?_)
  · replace hf := (if_pos c1).symm.trans hf
    refine lv_iconst (v := (0 : Int32)) hx hb dX7_hold_35 (by decide) ?_
    exact gw_retz F hW hf (Or.inl rfl) dX7_hold_36
  · replace hf := (if_neg c1).symm.trans hf
    refine lv_iload_n hx hb dX7_hold_6 rfl (lv_at hl 1 rfl) ?_
    refine lv_aload_n hx hb dX7_hold_7 rfl (lv_at hl 0 rfl) ?_
    refine gw_get (v := .ref (ka K 3)) F inc_X7 hW 10 7 1 (aX_10 K σ) rfl (by decide) (hG _ q_1_171) (fun _ h9 => h9) rfl dX7_hold_8 ?_
    obtain ⟨o2, h3, hf⟩ := gw_bind hf
    refine gw_Vi (As := []) (mc' := 0) (ms' := 0) F hW (mXX2_inodes_3 h3) (cwV 0 hts (gT_V q_2_96 q_2_97 q_2_98 q_1_4 q_2_99) rfl rfl rfl hdX2_inodes ⟨Nat.le_of_ble_eq_true rfl, Nat.le_of_ble_eq_true rfl⟩) 3 2 (aX_3 K σ) rfl rfl hl.1 rfl (Nat.le_of_ble_eq_true rfl) dX7_hold_11 ⟨Nat.le_of_ble_eq_true rfl, Nat.le_of_ble_eq_true rfl⟩ rfl rfl (fun H locs hW => ?_)
    refine lv_icmp_gt (tgt := 35) hx hb dX7_hold_14 (by decide) (fun c5 => ?_) (fun c5 => ?_)
    · replace hf := (if_pos c5).symm.trans hf
      refine lv_iconst (v := (0 : Int32)) hx hb dX7_hold_35 (by decide) ?_
      exact gw_retz F hW hf (Or.inl rfl) dX7_hold_36
    · replace hf := (if_neg c5).symm.trans hf
      refine lv_iload_n hx hb dX7_hold_17 rfl (lv_at hl 1 rfl) ?_
      refine lv_aload_n hx hb dX7_hold_18 rfl (lv_at hl 0 rfl) ?_
      refine gw_get (v := .ref (ka K 14)) F inc_X7 hW 10 7 9 (aX_10 K o2.2) rfl (by decide) (hG _ q_1_179) (fun _ h9 => h9) rfl dX7_hold_19 ?_
      refine gw_alen F hW 14 4 (aX_14 K o2.2) rfl dX7_hold_22 ?_
      refine lv_icmp_ge (tgt := 35) hx hb dX7_hold_23 (by decide) (fun c6 => ?_) (fun c6 => ?_)
      · replace hf := (if_pos c6).symm.trans hf
        refine lv_iconst (v := (0 : Int32)) hx hb dX7_hold_35 (by decide) ?_
        exact gw_retz F hW hf (Or.inl rfl) dX7_hold_36
      · replace hf := (if_neg c6).symm.trans hf
        refine lv_aload_n hx hb dX7_hold_26 rfl (lv_at hl 0 rfl) ?_
        refine gw_get (v := .ref (ka K 14)) F inc_X7 hW 10 7 9 (aX_10 K o2.2) rfl (by decide) (hG _ q_1_179) (fun _ h9 => h9) rfl dX7_hold_27 ?_
        refine lv_iload_n hx hb dX7_hold_30 rfl (lv_at hl 1 rfl) ?_
        rcases Decidable.em (x1 < 0 ∨ 2065 ≤ x1.toNatClampNeg) with c7 | c7
        · replace hf := (if_pos c7).symm.trans hf
          exact absurd hf (by simp)
        · replace hf := (if_neg c7).symm.trans hf
          refine gw_iald F hW 14 4 (aX_14 K o2.2) rfl c7 dX7_hold_31 ?_
          refine lv_if_eq (tgt := 37) hx hb dX7_hold_32 (by decide) (fun c8 => ?_) (fun c8 => ?_)
          · replace hf := (if_pos c8).symm.trans hf
            refine lv_aload_n hx hb dX7_hold_37 rfl (lv_at hl 0 rfl) ?_
            refine gw_get (v := .ref (ka K 14)) F inc_X7 hW 10 7 9 (aX_10 K o2.2) rfl (by decide) (hG _ q_1_179) (fun _ h9 => h9) rfl dX7_hold_38 ?_
            refine lv_iload_n hx hb dX7_hold_41 rfl (lv_at hl 1 rfl) ?_
            refine lv_iload_n hx hb dX7_hold_42 rfl (lv_at hl 2 rfl) ?_
            rcases Decidable.em (x1 < 0 ∨ 2065 ≤ x1.toNatClampNeg) with c9 | c9
            · replace hf := (if_pos c9).symm.trans hf
              exact absurd hf (by simp)
            · replace hf := (if_neg c9).symm.trans hf
              refine gw_iast (σ' := (stA o2.2 4 x1.toNatClampNeg x2)) F hW 14 4 (aX_14 K o2.2) rfl c9 dX7_hold_43 (sAX_4 _ _ _) (fun H locs hW => ?_)
              refine lv_iconst (v := (1 : Int32)) hx hb dX7_hold_44 (by decide) ?_
              exact gw_retz F hW hf (Or.inr rfl) dX7_hold_45
          · replace hf := (if_neg c8).symm.trans hf
            refine lv_iconst (v := (0 : Int32)) hx hb dX7_hold_35 (by decide) ?_
            exact gw_retz F hW hf (Or.inl rfl) dX7_hold_36
set_option maxHeartbeats 4000000 in
set_option maxRecDepth 100000 in
theorem mXX7_hold_10 {l : Launch} {K : KX} {σ : XS} {x1 : Int32} {x2 : Int32} {o : (Int32 × XS)} (hf : fXX7_hold_10 (kn K) x1 x2 σ = some o) : gw_Mz l (kD K) vwCl (tyX K) (wX K) yX7_hold wsX7_hold rXX7_hold_10 [.ref (ka K 10), .int x1, .int x2] σ o := by
  intro sz
  refine gw_body (cc := cX7_hold) (maxL := 3) (yret := some .boolean) (by decide +kernel) rfl ?_ (Nat.le_of_ble_eq_true rfl)
  intro p e s m below meth c F hsz hW ls hl
  exact wXX7_hold_10_0 F x1 x2 σ o hf s.heap [] ls hl hW
abbrev rXX7_itemsHold_10 : Room := { frames := 3, cells := 0, slots := 0, locals := 72 }
def PXX7_itemsHold_10_4 (p : Program) (l : Launch) (e : Env) (s : State) (m : MethodId) (args : Array Value) (below : List Frame) (meth : Method) (c : Code) (A : Nat → Prop) (K : KX) (t : (Int32 × Int32 × Int32 × XS)) (o : (Int32 × XS)) : Prop := ∀ (H : Heap) (locs : List Loc) (ls : Array Slot), lv_has ls 5 [(0, .ref (ka K 10)), (1, .int t.1), (2, .int t.2.1), (3, .int t.2.2.1)] → gw_ (kD K) vwCl (tyX K) (wX K) A s t.2.2.2 H locs → W p l e rXX7_itemsHold_10 s m args below meth c H locs 0 0 (MQ below (va_Qi (fun r u => (r = o.1 ∧ u = o.2) ∧ (o.1 = 0 ∨ o.1 = 1)) (gw_B (kD K) vwCl (tyX K) (wX K) A) A) args s rXX7_itemsHold_10.cells rXX7_itemsHold_10.slots A) (F0 m 4 ls [])
set_option maxHeartbeats 4000000 in
set_option maxRecDepth 100000 in
theorem wXX7_itemsHold_10_80 {p : Program} {l : Launch} {e : Env} {s : State} {m : MethodId} {args : Array Value} {below : List Frame} {meth : Method} {c : Code} {A : Nat → Prop} {K : KX} (F : fx_ p s m args meth c cX7_itemsHold 5 (some .boolean) RX7 wsX7_itemsHold) {k4 : (Int32 × Int32 × Int32 × XS) → Option (Int32 × XS)} (hk4 : ∀ t o, k4 t = some o → PXX7_itemsHold_10_4 p l e s m args below meth c A K t o) (x1 : Int32) (x2 : Int32) (x3 : Int32) (σ : XS) (o : (Int32 × XS)) (hf : fXX7_itemsHold_10_80 (kn K) k4 x1 x2 x3 σ = some o) (H : Heap) (locs : List Loc) (ls : Array Slot) (hl : lv_has ls 5 [(0, .ref (ka K 10)), (1, .int x1), (2, .int x2), (3, .int x3)]) (hW : gw_ (kD K) vwCl (tyX K) (wX K) A s σ H locs) : W p l e rXX7_itemsHold_10 s m args below meth c H locs 0 0 (MQ below (va_Qi (fun r u => (r = o.1 ∧ u = o.2) ∧ (o.1 = 0 ∨ o.1 = 1)) (gw_B (kD K) vwCl (tyX K) (wX K) A) A) args s rXX7_itemsHold_10.cells rXX7_itemsHold_10.slots A) (F0 m 80 ls []) := by
  have hx := F.1
  have hb := F.2.1
  have hml := F.2.2.2.1
  have hown := F.2.2.2.2.1
  have hts := F.2.2.2.2.2.1
  have hG : ∀ x ∈ gT, x.before args s = true := fun x h => hts x (List.mem_cons_of_mem _ h)
  unfold fXX7_itemsHold_10_80 at hf
  refine lv_iinc (v := (x3 + (1 : Int32))) (lv' := [(3, .int (x3 + (1 : Int32))), (0, .ref (ka K 10)), (1, .int x1), (2, .int x2)]) hx hb dX7_itemsHold_80 hl (k := 3) rfl rfl (by decide) rfl (fun ls hl => ?_)
  refine lv_goto (tgt := 4) hx hb dX7_itemsHold_83 (by decide) ?_
  exact hk4 _ _ hf _ _ _ (lv_sub hl [1, 2, 3, 0] rfl) hW
set_option maxHeartbeats 4000000 in
set_option maxRecDepth 100000 in
theorem wXX7_itemsHold_10_78 {p : Program} {l : Launch} {e : Env} {s : State} {m : MethodId} {args : Array Value} {below : List Frame} {meth : Method} {c : Code} {A : Nat → Prop} {K : KX} (F : fx_ p s m args meth c cX7_itemsHold 5 (some .boolean) RX7 wsX7_itemsHold) {k4 : (Int32 × Int32 × Int32 × XS) → Option (Int32 × XS)} (hk4 : ∀ t o, k4 t = some o → PXX7_itemsHold_10_4 p l e s m args below meth c A K t o) (x1 : Int32) (x3 : Int32) (y0 : Int32) (y1 : Int32) (σ : XS) (o : (Int32 × XS)) (hf : fXX7_itemsHold_10_78 (kn K) k4 x1 x3 y0 y1 σ = some o) (H : Heap) (locs : List Loc) (ls : Array Slot) (hl : lv_has ls 5 [(0, .ref (ka K 10)), (1, .int x1), (3, .int x3)]) (hW : gw_ (kD K) vwCl (tyX K) (wX K) A s σ H locs) : W p l e rXX7_itemsHold_10 s m args below meth c H locs 0 0 (MQ below (va_Qi (fun r u => (r = o.1 ∧ u = o.2) ∧ (o.1 = 0 ∨ o.1 = 1)) (gw_B (kD K) vwCl (tyX K) (wX K) A) A) args s rXX7_itemsHold_10.cells rXX7_itemsHold_10.slots A) (F0 m 78 ls [.int y0, .int y1]) := by
  have hx := F.1
  have hb := F.2.1
  have hml := F.2.2.2.1
  have hown := F.2.2.2.2.1
  have hts := F.2.2.2.2.2.1
  have hG : ∀ x ∈ gT, x.before args s = true := fun x h => hts x (List.mem_cons_of_mem _ h)
  unfold fXX7_itemsHold_10_78 at hf
  refine lv_iadd hx hb dX7_itemsHold_78 ?_
  refine lv_istore_n (lv' := [(2, .int (y1 + y0)), (0, .ref (ka K 10)), (1, .int x1), (3, .int x3)]) hx hb dX7_itemsHold_79 rfl hl (by decide) rfl (fun ls hl => ?_)
  exact wXX7_itemsHold_10_80 F hk4 x1 (y1 + y0) x3 _ _ hf _ _ _ (lv_sub hl [1, 2, 0, 3] rfl) hW
set_option maxHeartbeats 4000000 in
set_option maxRecDepth 100000 in
theorem wXX7_itemsHold_10_4 {p : Program} {l : Launch} {e : Env} {s : State} {m : MethodId} {args : Array Value} {below : List Frame} {meth : Method} {c : Code} {A : Nat → Prop} {K : KX} (F : fx_ p s m args meth c cX7_itemsHold 5 (some .boolean) RX7 wsX7_itemsHold) {k4 : (Int32 × Int32 × Int32 × XS) → Option (Int32 × XS)} (hk4 : ∀ t o, k4 t = some o → PXX7_itemsHold_10_4 p l e s m args below meth c A K t o) (x1 : Int32) (x2 : Int32) (x3 : Int32) (σ : XS) (o : (Int32 × XS)) (hf : fXX7_itemsHold_10_4 (kn K) k4 x1 x2 x3 σ = some o) (H : Heap) (locs : List Loc) (ls : Array Slot) (hl : lv_has ls 5 [(0, .ref (ka K 10)), (1, .int x1), (2, .int x2), (3, .int x3)]) (hW : gw_ (kD K) vwCl (tyX K) (wX K) A s σ H locs) : W p l e rXX7_itemsHold_10 s m args below meth c H locs 0 0 (MQ below (va_Qi (fun r u => (r = o.1 ∧ u = o.2) ∧ (o.1 = 0 ∨ o.1 = 1)) (gw_B (kD K) vwCl (tyX K) (wX K) A) A) args s rXX7_itemsHold_10.cells rXX7_itemsHold_10.slots A) (F0 m 4 ls []) := by
  have hx := F.1
  have hb := F.2.1
  have hml := F.2.2.2.1
  have hown := F.2.2.2.2.1
  have hts := F.2.2.2.2.2.1
  have hG : ∀ x ∈ gT, x.before args s = true := fun x h => hts x (List.mem_cons_of_mem _ h)
  unfold fXX7_itemsHold_10_4 at hf
  refine lv_iload_n hx hb dX7_itemsHold_4 rfl (lv_at hl 3 rfl) ?_
  refine lv_aload_n hx hb dX7_itemsHold_5 rfl (lv_at hl 0 rfl) ?_
  refine gw_get (v := .ref (ka K 7)) F inc_X7 hW 10 7 5 (aX_10 K σ) rfl (by decide) (hG _ q_1_175) (fun _ h9 => h9) rfl dX7_itemsHold_6 ?_
  obtain ⟨o1, h2, hf⟩ := gw_bind hf
  refine gw_Vi (As := []) (mc' := 0) (ms' := 0) F hW (mXX5_count_7 h2) (cwV 0 hts (gT_V q_2_175 q_2_176 q_2_177 q_1_7 q_2_178) rfl rfl rfl hdX5_count ⟨Nat.le_of_ble_eq_true rfl, Nat.le_of_ble_eq_true rfl⟩) 7 5 (aX_7 K σ) rfl rfl hl.1 rfl (Nat.le_of_ble_eq_true rfl) dX7_itemsHold_9 ⟨Nat.le_of_ble_eq_true rfl, Nat.le_of_ble_eq_true rfl⟩ rfl rfl (fun H locs hW => ?_)
  refine lv_icmp_ge (tgt := 86) hx hb dX7_itemsHold_12 (by decide) (fun c4 => ?_) (fun c4 => ?_)
  · replace hf := (if_pos c4).symm.trans hf
    refine lv_aload_n hx hb dX7_itemsHold_86 rfl (lv_at hl 0 rfl) ?_
    refine gw_get (v := .ref (ka K 6)) F inc_X7 hW 10 7 4 (aX_10 K o1.2) rfl (by decide) (hG _ q_1_174) (fun _ h9 => h9) rfl dX7_itemsHold_87 ?_
    refine lv_iload_n hx hb dX7_itemsHold_90 rfl (lv_at hl 1 rfl) ?_
    obtain ⟨o5, h6, hf⟩ := gw_bind hf
    refine gw_Vi (As := [.int x1]) (mc' := 0) (ms' := 0) F hW (mXX4_links_6 h6) (cwV 1 hts (gT_V q_2_235 q_2_236 q_2_237 q_1_6 q_2_238) rfl rfl rfl hdX4_links ⟨Nat.le_of_ble_eq_true rfl, Nat.le_of_ble_eq_true rfl⟩) 6 4 (aX_6 K o1.2) rfl rfl hl.1 rfl (Nat.le_of_ble_eq_true rfl) dX7_itemsHold_91 ⟨Nat.le_of_ble_eq_true rfl, Nat.le_of_ble_eq_true rfl⟩ rfl rfl (fun H locs hW => ?_)
    refine lv_iload_n hx hb dX7_itemsHold_94 rfl (lv_at hl 2 rfl) ?_
    refine lv_icmp_ne (tgt := 102) hx hb dX7_itemsHold_95 (by decide) (fun c8 => ?_) (fun c8 => ?_)
    · replace hf := (if_neg c8).symm.trans hf
      refine lv_iconst (v := (0 : Int32)) hx hb dX7_itemsHold_102 (by decide) ?_
      exact gw_retz F hW hf (Or.inl rfl) dX7_itemsHold_103
    · replace hf := (if_pos c8).symm.trans hf
      refine lv_iconst (v := (1 : Int32)) hx hb dX7_itemsHold_98 (by decide) ?_
      refine lv_goto (tgt := 103) hx hb dX7_itemsHold_99 (by decide) ?_
      exact gw_retz F hW hf (Or.inr rfl) dX7_itemsHold_103
  · replace hf := (if_neg c4).symm.trans hf
    refine lv_aload_n hx hb dX7_itemsHold_15 rfl (lv_at hl 0 rfl) ?_
    refine lv_iload_n hx hb dX7_itemsHold_16 rfl (lv_at hl 3 rfl) ?_
    obtain ⟨o9, h10, hf⟩ := gw_bind hf
    refine gw_Vz (As := [.int x3]) (mc' := 0) (ms' := 0) F hW (mXX7_entryHolds_10 h10) (cwV 1 hts (gT_V q_2_179 q_2_181 qp_9 q_1_9 q_2_182) rfl rfl rfl hdX7_entryHolds ⟨Nat.le_of_ble_eq_true rfl, Nat.le_of_ble_eq_true rfl⟩) 10 7 (aX_10 K o1.2) rfl rfl hl.1 rfl (Nat.le_of_ble_eq_true rfl) dX7_itemsHold_17 ⟨Nat.le_of_ble_eq_true rfl, Nat.le_of_ble_eq_true rfl⟩ rfl rfl (fun H locs z11 hW => ?_)
    refine lv_if_ne (tgt := 25) hx hb dX7_itemsHold_20 (by decide) (fun c12 => ?_) (fun c12 => ?_)
    · replace hf := (if_neg c12).symm.trans hf
      refine lv_aload_n hx hb dX7_itemsHold_25 rfl (lv_at hl 0 rfl) ?_
      refine gw_get (v := .ref (ka K 7)) F inc_X7 hW 10 7 5 (aX_10 K o9.2) rfl (by decide) (hG _ q_1_175) (fun _ h9 => h9) rfl dX7_itemsHold_26 ?_
      refine lv_iload_n hx hb dX7_itemsHold_29 rfl (lv_at hl 3 rfl) ?_
      obtain ⟨o13, h14, hf⟩ := gw_bind hf
      refine gw_Vi (As := [.int x3]) (mc' := 0) (ms' := 0) F hW (mXX5_inodeOf_7 h14) (cwV 1 hts (gT_V q_2_192 q_2_193 q_2_194 q_1_7 q_2_195) rfl rfl rfl hdX5_inodeOf ⟨Nat.le_of_ble_eq_true rfl, Nat.le_of_ble_eq_true rfl⟩) 7 5 (aX_7 K o9.2) rfl rfl hl.1 rfl (Nat.le_of_ble_eq_true rfl) dX7_itemsHold_30 ⟨Nat.le_of_ble_eq_true rfl, Nat.le_of_ble_eq_true rfl⟩ rfl rfl (fun H locs hW => ?_)
      refine lv_istore (lv' := [(4, .int o13.1), (0, .ref (ka K 10)), (1, .int x1), (2, .int x2), (3, .int x3)]) hx hb dX7_itemsHold_33 hl (by decide) rfl (fun ls hl => ?_)
      refine lv_iload hx hb dX7_itemsHold_35 (lv_at hl 0 rfl) ?_
      refine lv_if_eq (tgt := 80) hx hb dX7_itemsHold_37 (by decide) (fun c16 => ?_) (fun c16 => ?_)
      · replace hf := (if_pos c16).symm.trans hf
        exact wXX7_itemsHold_10_80 F hk4 x1 x2 x3 _ _ hf _ _ _ (lv_sub hl [1, 2, 3, 4] rfl) hW
      · replace hf := (if_neg c16).symm.trans hf
        refine lv_aload_n hx hb dX7_itemsHold_40 rfl (lv_at hl 1 rfl) ?_
        refine lv_iload_n hx hb dX7_itemsHold_41 rfl (lv_at hl 4 rfl) ?_
        obtain ⟨o17, h18, hf⟩ := gw_bind hf
        refine gw_Vz (As := [.int x3]) (mc' := 0) (ms' := 0) F hW (mXX7_nameHolds_10 h18) (cwV 1 hts (gT_V q_2_223 q_2_225 qp_11 q_1_9 q_2_226) rfl rfl rfl hdX7_nameHolds ⟨Nat.le_of_ble_eq_true rfl, Nat.le_of_ble_eq_true rfl⟩) 10 7 (aX_10 K o13.2) rfl rfl hl.1 rfl (Nat.le_of_ble_eq_true rfl) dX7_itemsHold_42 ⟨Nat.le_of_ble_eq_true rfl, Nat.le_of_ble_eq_true rfl⟩ rfl rfl (fun H locs z19 hW => ?_)
        refine lv_if_eq (tgt := 58) hx hb dX7_itemsHold_45 (by decide) (fun c20 => ?_) (fun c20 => ?_)
        · replace hf := (if_pos c20).symm.trans hf
          refine lv_iconst (v := (0 : Int32)) hx hb dX7_itemsHold_58 (by decide) ?_
          exact gw_retz F hW hf (Or.inl rfl) dX7_itemsHold_59
        · replace hf := (if_neg c20).symm.trans hf
          refine lv_aload_n hx hb dX7_itemsHold_48 rfl (lv_at hl 1 rfl) ?_
          refine lv_iload hx hb dX7_itemsHold_49 (lv_at hl 0 rfl) ?_
          refine lv_iload_n hx hb dX7_itemsHold_51 rfl (lv_at hl 2 rfl) ?_
          obtain ⟨o21, h22, hf⟩ := gw_bind hf
          refine gw_Vz (As := [.int o13.1, .int x1]) (mc' := 0) (ms' := 0) F hW (mXX7_hold_10 h22) (cwV 2 hts (gT_V q_2_231 q_2_233 qp_13 q_1_9 q_2_234) rfl rfl rfl hdX7_hold ⟨Nat.le_of_ble_eq_true rfl, Nat.le_of_ble_eq_true rfl⟩) 10 7 (aX_10 K o17.2) rfl rfl hl.1 rfl (Nat.le_of_ble_eq_true rfl) dX7_itemsHold_52 ⟨Nat.le_of_ble_eq_true rfl, Nat.le_of_ble_eq_true rfl⟩ rfl rfl (fun H locs z23 hW => ?_)
          refine lv_if_ne (tgt := 60) hx hb dX7_itemsHold_55 (by decide) (fun c24 => ?_) (fun c24 => ?_)
          · replace hf := (if_neg c24).symm.trans hf
            refine lv_iload_n hx hb dX7_itemsHold_60 rfl (lv_at hl 3 rfl) ?_
            refine lv_aload_n hx hb dX7_itemsHold_61 rfl (lv_at hl 1 rfl) ?_
            refine gw_get (v := .ref (ka K 6)) F inc_X7 hW 10 7 4 (aX_10 K o21.2) rfl (by decide) (hG _ q_1_174) (fun _ h9 => h9) rfl dX7_itemsHold_62 ?_
            refine lv_iload hx hb dX7_itemsHold_65 (lv_at hl 0 rfl) ?_
            obtain ⟨o25, h26, hf⟩ := gw_bind hf
            refine gw_Vz (As := [.int o13.1]) (mc' := 0) (ms' := 0) F hW (mXX4_isDirectory_6 h26) (cwV 1 hts (gT_V q_2_143 q_2_144 q_2_145 q_1_6 q_2_146) rfl rfl rfl hdX4_isDirectory ⟨Nat.le_of_ble_eq_true rfl, Nat.le_of_ble_eq_true rfl⟩) 6 4 (aX_6 K o21.2) rfl rfl hl.1 rfl (Nat.le_of_ble_eq_true rfl) dX7_itemsHold_67 ⟨Nat.le_of_ble_eq_true rfl, Nat.le_of_ble_eq_true rfl⟩ rfl rfl (fun H locs z27 hW => ?_)
            refine lv_if_eq (tgt := 77) hx hb dX7_itemsHold_70 (by decide) (fun c28 => ?_) (fun c28 => ?_)
            · replace hf := (if_pos c28).symm.trans hf
              refine lv_iconst (v := (0 : Int32)) hx hb dX7_itemsHold_77 (by decide) ?_
              exact wXX7_itemsHold_10_78 F hk4 x1 x3 (0 : Int32) x2 _ _ hf _ _ _ (lv_sub hl [1, 2, 4] rfl) hW
            · replace hf := (if_neg c28).symm.trans hf
              refine lv_iconst (v := (1 : Int32)) hx hb dX7_itemsHold_73 (by decide) ?_
              refine lv_goto (tgt := 78) hx hb dX7_itemsHold_74 (by decide) ?_
              exact wXX7_itemsHold_10_78 F hk4 x1 x3 (1 : Int32) x2 _ _ hf _ _ _ (lv_sub hl [1, 2, 4] rfl) hW
          · replace hf := (if_pos c24).symm.trans hf
            refine lv_iconst (v := (0 : Int32)) hx hb dX7_itemsHold_58 (by decide) ?_
            exact gw_retz F hW hf (Or.inl rfl) dX7_itemsHold_59
    · replace hf := (if_pos c12).symm.trans hf
      refine lv_iconst (v := (0 : Int32)) hx hb dX7_itemsHold_23 (by decide) ?_
      exact gw_retz F hW hf (Or.inl rfl) dX7_itemsHold_24
set_option maxHeartbeats 4000000 in
set_option maxRecDepth 100000 in
theorem wXX7_itemsHold_10_0 {p : Program} {l : Launch} {e : Env} {s : State} {m : MethodId} {args : Array Value} {below : List Frame} {meth : Method} {c : Code} {A : Nat → Prop} {K : KX} (F : fx_ p s m args meth c cX7_itemsHold 5 (some .boolean) RX7 wsX7_itemsHold) (x1 : Int32) (σ : XS) (o : (Int32 × XS)) (hf : fXX7_itemsHold_10_0 (kn K) x1 σ = some o) (H : Heap) (locs : List Loc) (ls : Array Slot) (hl : lv_has ls 5 [(0, .ref (ka K 10)), (1, .int x1)]) (hW : gw_ (kD K) vwCl (tyX K) (wX K) A s σ H locs) : W p l e rXX7_itemsHold_10 s m args below meth c H locs 0 0 (MQ below (va_Qi (fun r u => (r = o.1 ∧ u = o.2) ∧ (o.1 = 0 ∨ o.1 = 1)) (gw_B (kD K) vwCl (tyX K) (wX K) A) A) args s rXX7_itemsHold_10.cells rXX7_itemsHold_10.slots A) (F0 m 0 ls []) := by
  have hx := F.1
  have hb := F.2.1
  have hml := F.2.2.2.1
  have hown := F.2.2.2.2.1
  have hts := F.2.2.2.2.2.1
  have hG : ∀ x ∈ gT, x.before args s = true := fun x h => hts x (List.mem_cons_of_mem _ h)
  unfold fXX7_itemsHold_10_0 at hf
  refine lv_iconst (v := (2 : Int32)) hx hb dX7_itemsHold_0 (by decide) ?_
  refine lv_istore_n (lv' := [(2, .int (2 : Int32)), (0, .ref (ka K 10)), (1, .int x1)]) hx hb dX7_itemsHold_1 rfl hl (by decide) rfl (fun ls hl => ?_)
  refine lv_iconst (v := (2 : Int32)) hx hb dX7_itemsHold_2 (by decide) ?_
  refine lv_istore_n (lv' := [(3, .int (2 : Int32)), (2, .int (2 : Int32)), (0, .ref (ka K 10)), (1, .int x1)]) hx hb dX7_itemsHold_3 rfl hl (by decide) rfl (fun ls hl => ?_)
  exact lfix_ind (P := PXX7_itemsHold_10_4 p l e s m args below meth c A K) (fun k4 hk4 t o hf => wXX7_itemsHold_10_4 F hk4 t.1 t.2.1 t.2.2.1 t.2.2.2 o hf) FU _ _ hf _ _ _ (lv_sub hl [2, 3, 1, 0] rfl) hW
set_option maxHeartbeats 4000000 in
set_option maxRecDepth 100000 in
theorem mXX7_itemsHold_10 {l : Launch} {K : KX} {σ : XS} {x1 : Int32} {o : (Int32 × XS)} (hf : fXX7_itemsHold_10 (kn K) x1 σ = some o) : gw_Mz l (kD K) vwCl (tyX K) (wX K) yX7_itemsHold wsX7_itemsHold rXX7_itemsHold_10 [.ref (ka K 10), .int x1] σ o := by
  intro sz
  refine gw_body (cc := cX7_itemsHold) (maxL := 5) (yret := some .boolean) (by decide +kernel) rfl ?_ (Nat.le_of_ble_eq_true rfl)
  intro p e s m below meth c F hsz hW ls hl
  exact wXX7_itemsHold_10_0 F x1 σ o hf s.heap [] ls hl hW
abbrev rXX7_directoriesHold_10 : Room := { frames := 4, cells := 0, slots := 0, locals := 96 }
def PXX7_directoriesHold_10_2 (p : Program) (l : Launch) (e : Env) (s : State) (m : MethodId) (args : Array Value) (below : List Frame) (meth : Method) (c : Code) (A : Nat → Prop) (K : KX) (t : (Int32 × XS)) (o : (Int32 × XS)) : Prop := ∀ (H : Heap) (locs : List Loc) (ls : Array Slot), lv_has ls 2 [(0, .ref (ka K 10)), (1, .int t.1)] → gw_ (kD K) vwCl (tyX K) (wX K) A s t.2 H locs → W p l e rXX7_directoriesHold_10 s m args below meth c H locs 0 0 (MQ below (va_Qi (fun r u => (r = o.1 ∧ u = o.2) ∧ (o.1 = 0 ∨ o.1 = 1)) (gw_B (kD K) vwCl (tyX K) (wX K) A) A) args s rXX7_directoriesHold_10.cells rXX7_directoriesHold_10.slots A) (F0 m 2 ls [])
set_option maxHeartbeats 4000000 in
set_option maxRecDepth 100000 in
theorem wXX7_directoriesHold_10_87 {p : Program} {l : Launch} {e : Env} {s : State} {m : MethodId} {args : Array Value} {below : List Frame} {meth : Method} {c : Code} {A : Nat → Prop} {K : KX} (F : fx_ p s m args meth c cX7_directoriesHold 2 (some .boolean) RX7 wsX7_directoriesHold) {k2 : (Int32 × XS) → Option (Int32 × XS)} (hk2 : ∀ t o, k2 t = some o → PXX7_directoriesHold_10_2 p l e s m args below meth c A K t o) (x1 : Int32) (σ : XS) (o : (Int32 × XS)) (hf : fXX7_directoriesHold_10_87 (kn K) k2 x1 σ = some o) (H : Heap) (locs : List Loc) (ls : Array Slot) (hl : lv_has ls 2 [(0, .ref (ka K 10)), (1, .int x1)]) (hW : gw_ (kD K) vwCl (tyX K) (wX K) A s σ H locs) : W p l e rXX7_directoriesHold_10 s m args below meth c H locs 0 0 (MQ below (va_Qi (fun r u => (r = o.1 ∧ u = o.2) ∧ (o.1 = 0 ∨ o.1 = 1)) (gw_B (kD K) vwCl (tyX K) (wX K) A) A) args s rXX7_directoriesHold_10.cells rXX7_directoriesHold_10.slots A) (F0 m 87 ls []) := by
  have hx := F.1
  have hb := F.2.1
  have hml := F.2.2.2.1
  have hown := F.2.2.2.2.1
  have hts := F.2.2.2.2.2.1
  have hG : ∀ x ∈ gT, x.before args s = true := fun x h => hts x (List.mem_cons_of_mem _ h)
  unfold fXX7_directoriesHold_10_87 at hf
  refine lv_iinc (v := (x1 + (1 : Int32))) (lv' := [(1, .int (x1 + (1 : Int32))), (0, .ref (ka K 10))]) hx hb dX7_directoriesHold_87 hl (k := 1) rfl rfl (by decide) rfl (fun ls hl => ?_)
  refine lv_goto (tgt := 2) hx hb dX7_directoriesHold_90 (by decide) ?_
  exact hk2 _ _ hf _ _ _ (lv_sub hl [1, 0] rfl) hW
set_option maxHeartbeats 4000000 in
set_option maxRecDepth 100000 in
theorem wXX7_directoriesHold_10_2 {p : Program} {l : Launch} {e : Env} {s : State} {m : MethodId} {args : Array Value} {below : List Frame} {meth : Method} {c : Code} {A : Nat → Prop} {K : KX} (F : fx_ p s m args meth c cX7_directoriesHold 2 (some .boolean) RX7 wsX7_directoriesHold) {k2 : (Int32 × XS) → Option (Int32 × XS)} (hk2 : ∀ t o, k2 t = some o → PXX7_directoriesHold_10_2 p l e s m args below meth c A K t o) (x1 : Int32) (σ : XS) (o : (Int32 × XS)) (hf : fXX7_directoriesHold_10_2 (kn K) k2 x1 σ = some o) (H : Heap) (locs : List Loc) (ls : Array Slot) (hl : lv_has ls 2 [(0, .ref (ka K 10)), (1, .int x1)]) (hW : gw_ (kD K) vwCl (tyX K) (wX K) A s σ H locs) : W p l e rXX7_directoriesHold_10 s m args below meth c H locs 0 0 (MQ below (va_Qi (fun r u => (r = o.1 ∧ u = o.2) ∧ (o.1 = 0 ∨ o.1 = 1)) (gw_B (kD K) vwCl (tyX K) (wX K) A) A) args s rXX7_directoriesHold_10.cells rXX7_directoriesHold_10.slots A) (F0 m 2 ls []) := by
  have hx := F.1
  have hb := F.2.1
  have hml := F.2.2.2.1
  have hown := F.2.2.2.2.1
  have hts := F.2.2.2.2.2.1
  have hG : ∀ x ∈ gT, x.before args s = true := fun x h => hts x (List.mem_cons_of_mem _ h)
  unfold fXX7_directoriesHold_10_2 at hf
  refine lv_iload_n hx hb dX7_directoriesHold_2 rfl (lv_at hl 1 rfl) ?_
  refine lv_aload_n hx hb dX7_directoriesHold_3 rfl (lv_at hl 0 rfl) ?_
  refine gw_get (v := .ref (ka K 3)) F inc_X7 hW 10 7 1 (aX_10 K σ) rfl (by decide) (hG _ q_1_171) (fun _ h9 => h9) rfl dX7_directoriesHold_4 ?_
  obtain ⟨o1, h2, hf⟩ := gw_bind hf
  refine gw_Vi (As := []) (mc' := 0) (ms' := 0) F hW (mXX2_inodes_3 h2) (cwV 0 hts (gT_V q_2_96 q_2_97 q_2_98 q_1_4 q_2_99) rfl rfl rfl hdX2_inodes ⟨Nat.le_of_ble_eq_true rfl, Nat.le_of_ble_eq_true rfl⟩) 3 2 (aX_3 K σ) rfl rfl hl.1 rfl (Nat.le_of_ble_eq_true rfl) dX7_directoriesHold_7 ⟨Nat.le_of_ble_eq_true rfl, Nat.le_of_ble_eq_true rfl⟩ rfl rfl (fun H locs hW => ?_)
  refine lv_icmp_gt (tgt := 93) hx hb dX7_directoriesHold_10 (by decide) (fun c4 => ?_) (fun c4 => ?_)
  · replace hf := (if_pos c4).symm.trans hf
    refine lv_iconst (v := (1 : Int32)) hx hb dX7_directoriesHold_93 (by decide) ?_
    exact gw_retz F hW hf (Or.inr rfl) dX7_directoriesHold_94
  · replace hf := (if_neg c4).symm.trans hf
    refine lv_aload_n hx hb dX7_directoriesHold_13 rfl (lv_at hl 0 rfl) ?_
    refine gw_get (v := .ref (ka K 6)) F inc_X7 hW 10 7 4 (aX_10 K o1.2) rfl (by decide) (hG _ q_1_174) (fun _ h9 => h9) rfl dX7_directoriesHold_14 ?_
    refine lv_iload_n hx hb dX7_directoriesHold_17 rfl (lv_at hl 1 rfl) ?_
    obtain ⟨o5, h6, hf⟩ := gw_bind hf
    refine gw_Vz (As := [.int x1]) (mc' := 0) (ms' := 0) F hW (mXX4_isDirectory_6 h6) (cwV 1 hts (gT_V q_2_143 q_2_144 q_2_145 q_1_6 q_2_146) rfl rfl rfl hdX4_isDirectory ⟨Nat.le_of_ble_eq_true rfl, Nat.le_of_ble_eq_true rfl⟩) 6 4 (aX_6 K o1.2) rfl rfl hl.1 rfl (Nat.le_of_ble_eq_true rfl) dX7_directoriesHold_18 ⟨Nat.le_of_ble_eq_true rfl, Nat.le_of_ble_eq_true rfl⟩ rfl rfl (fun H locs z7 hW => ?_)
    refine lv_if_eq (tgt := 87) hx hb dX7_directoriesHold_21 (by decide) (fun c8 => ?_) (fun c8 => ?_)
    · replace hf := (if_pos c8).symm.trans hf
      exact wXX7_directoriesHold_10_87 F hk2 x1 _ _ hf _ _ _ (lv_sub hl [0, 1] rfl) hW
    · replace hf := (if_neg c8).symm.trans hf
      refine lv_aload_n hx hb dX7_directoriesHold_24 rfl (lv_at hl 0 rfl) ?_
      refine gw_get (v := .ref (ka K 7)) F inc_X7 hW 10 7 5 (aX_10 K o5.2) rfl (by decide) (hG _ q_1_175) (fun _ h9 => h9) rfl dX7_directoriesHold_25 ?_
      refine lv_iload_n hx hb dX7_directoriesHold_28 rfl (lv_at hl 1 rfl) ?_
      obtain ⟨o9, h10, hf⟩ := gw_bind hf
      refine gw_Vv (As := [.int x1]) (mc' := 0) (ms' := 0) F hW (mXX5_read_7 h10) (cwV 1 hts (gT_V q_2_149 q_2_150 q_2_151 q_1_7 q_2_152) rfl rfl rfl hdX5_read ⟨Nat.le_of_ble_eq_true rfl, Nat.le_of_ble_eq_true rfl⟩) 7 5 (aX_7 K o5.2) rfl rfl hl.1 rfl (Nat.le_of_ble_eq_true rfl) dX7_directoriesHold_29 ⟨Nat.le_of_ble_eq_true rfl, Nat.le_of_ble_eq_true rfl⟩ rfl rfl (fun H locs hW => ?_)
      refine lv_aload_n hx hb dX7_directoriesHold_32 rfl (lv_at hl 0 rfl) ?_
      refine gw_get (v := .ref (ka K 6)) F inc_X7 hW 10 7 4 (aX_10 K o9) rfl (by decide) (hG _ q_1_174) (fun _ h9 => h9) rfl dX7_directoriesHold_33 ?_
      refine lv_iload_n hx hb dX7_directoriesHold_36 rfl (lv_at hl 1 rfl) ?_
      obtain ⟨o12, h13, hf⟩ := gw_bind hf
      refine gw_Vi (As := [.int x1]) (mc' := 0) (ms' := 0) F hW (mXX4_size_6 h13) (cwV 1 hts (gT_V q_2_170 q_2_154 q_2_155 q_1_6 q_2_156) rfl rfl rfl hdX4_size ⟨Nat.le_of_ble_eq_true rfl, Nat.le_of_ble_eq_true rfl⟩) 6 4 (aX_6 K o9) rfl rfl hl.1 rfl (Nat.le_of_ble_eq_true rfl) dX7_directoriesHold_37 ⟨Nat.le_of_ble_eq_true rfl, Nat.le_of_ble_eq_true rfl⟩ rfl rfl (fun H locs hW => ?_)
      refine lv_sipush (v := (1024 : Int32)) hx hb dX7_directoriesHold_40 (by decide) ?_
      refine lv_irem hx hb dX7_directoriesHold_43 (by decide) ?_
      refine lv_if_ne (tgt := 63) hx hb dX7_directoriesHold_44 (by decide) (fun c15 => ?_) (fun c15 => ?_)
      · replace hf := (if_neg c15).symm.trans hf
        refine lv_iconst (v := (0 : Int32)) hx hb dX7_directoriesHold_63 (by decide) ?_
        exact gw_retz F hW hf (Or.inl rfl) dX7_directoriesHold_64
      · replace hf := (if_pos c15).symm.trans hf
        refine lv_aload_n hx hb dX7_directoriesHold_47 rfl (lv_at hl 0 rfl) ?_
        refine lv_iload_n hx hb dX7_directoriesHold_48 rfl (lv_at hl 1 rfl) ?_
        obtain ⟨o16, h17, hf⟩ := gw_bind hf
        refine gw_Vz (As := [.int x1]) (mc' := 0) (ms' := 0) F hW (mXX7_dotsHold_10 h17) (cwV 1 hts (gT_V q_2_171 q_2_173 qp_8 q_1_9 q_2_174) rfl rfl rfl hdX7_dotsHold ⟨Nat.le_of_ble_eq_true rfl, Nat.le_of_ble_eq_true rfl⟩) 10 7 (aX_10 K o12.2) rfl rfl hl.1 rfl (Nat.le_of_ble_eq_true rfl) dX7_directoriesHold_49 ⟨Nat.le_of_ble_eq_true rfl, Nat.le_of_ble_eq_true rfl⟩ rfl rfl (fun H locs z18 hW => ?_)
        refine lv_if_eq (tgt := 63) hx hb dX7_directoriesHold_52 (by decide) (fun c19 => ?_) (fun c19 => ?_)
        · replace hf := (if_pos c19).symm.trans hf
          refine lv_iconst (v := (0 : Int32)) hx hb dX7_directoriesHold_63 (by decide) ?_
          exact gw_retz F hW hf (Or.inl rfl) dX7_directoriesHold_64
        · replace hf := (if_neg c19).symm.trans hf
          refine lv_aload_n hx hb dX7_directoriesHold_55 rfl (lv_at hl 0 rfl) ?_
          refine lv_iload_n hx hb dX7_directoriesHold_56 rfl (lv_at hl 1 rfl) ?_
          obtain ⟨o20, h21, hf⟩ := gw_bind hf
          refine gw_Vz (As := [.int x1]) (mc' := 0) (ms' := 0) F hW (mXX7_itemsHold_10 h21) (cwV 1 hts (gT_V q_2_219 q_2_221 qp_10 q_1_9 q_2_222) rfl rfl rfl hdX7_itemsHold ⟨Nat.le_of_ble_eq_true rfl, Nat.le_of_ble_eq_true rfl⟩) 10 7 (aX_10 K o16.2) rfl rfl hl.1 rfl (Nat.le_of_ble_eq_true rfl) dX7_directoriesHold_57 ⟨Nat.le_of_ble_eq_true rfl, Nat.le_of_ble_eq_true rfl⟩ rfl rfl (fun H locs z22 hW => ?_)
          refine lv_if_ne (tgt := 65) hx hb dX7_directoriesHold_60 (by decide) (fun c23 => ?_) (fun c23 => ?_)
          · replace hf := (if_neg c23).symm.trans hf
            refine lv_iload_n hx hb dX7_directoriesHold_65 rfl (lv_at hl 1 rfl) ?_
            refine lv_aload_n hx hb dX7_directoriesHold_66 rfl (lv_at hl 0 rfl) ?_
            refine gw_get (v := .ref (ka K 15)) F inc_X7 hW 10 7 10 (aX_10 K o20.2) rfl (by decide) (hG _ q_1_180) (fun _ h9 => h9) rfl dX7_directoriesHold_67 ?_
            refine gw_alen F hW 15 5 (aX_15 K o20.2) rfl dX7_directoriesHold_70 ?_
            refine lv_icmp_ge (tgt := 87) hx hb dX7_directoriesHold_71 (by decide) (fun c24 => ?_) (fun c24 => ?_)
            · replace hf := (if_pos c24).symm.trans hf
              exact wXX7_directoriesHold_10_87 F hk2 x1 _ _ hf _ _ _ (lv_sub hl [0, 1] rfl) hW
            · replace hf := (if_neg c24).symm.trans hf
              refine lv_aload_n hx hb dX7_directoriesHold_74 rfl (lv_at hl 0 rfl) ?_
              refine gw_get (v := .ref (ka K 15)) F inc_X7 hW 10 7 10 (aX_10 K o20.2) rfl (by decide) (hG _ q_1_180) (fun _ h9 => h9) rfl dX7_directoriesHold_75 ?_
              refine lv_iload_n hx hb dX7_directoriesHold_78 rfl (lv_at hl 1 rfl) ?_
              refine lv_aload_n hx hb dX7_directoriesHold_79 rfl (lv_at hl 0 rfl) ?_
              refine gw_get (v := .ref (ka K 7)) F inc_X7 hW 10 7 5 (aX_10 K o20.2) rfl (by decide) (hG _ q_1_175) (fun _ h9 => h9) rfl dX7_directoriesHold_80 ?_
              obtain ⟨o25, h26, hf⟩ := gw_bind hf
              refine gw_Vi (As := []) (mc' := 0) (ms' := 0) F hW (mXX5_parent_7 h26) (cwV 0 hts (gT_V q_2_214 q_2_215 q_2_216 q_1_7 q_2_217) rfl rfl rfl hdX5_parent ⟨Nat.le_of_ble_eq_true rfl, Nat.le_of_ble_eq_true rfl⟩) 7 5 (aX_7 K o20.2) rfl rfl hl.1 rfl (Nat.le_of_ble_eq_true rfl) dX7_directoriesHold_83 ⟨Nat.le_of_ble_eq_true rfl, Nat.le_of_ble_eq_true rfl⟩ rfl rfl (fun H locs hW => ?_)
              rcases Decidable.em (x1 < 0 ∨ 2065 ≤ x1.toNatClampNeg) with c28 | c28
              · replace hf := (if_pos c28).symm.trans hf
                exact absurd hf (by simp)
              · replace hf := (if_neg c28).symm.trans hf
                refine gw_iast (σ' := (stA o25.2 5 x1.toNatClampNeg o25.1)) F hW 15 5 (aX_15 K o25.2) rfl c28 dX7_directoriesHold_86 (sAX_5 _ _ _) (fun H locs hW => ?_)
                exact wXX7_directoriesHold_10_87 F hk2 x1 _ _ hf _ _ _ (lv_sub hl [0, 1] rfl) hW
          · replace hf := (if_pos c23).symm.trans hf
            refine lv_iconst (v := (0 : Int32)) hx hb dX7_directoriesHold_63 (by decide) ?_
            exact gw_retz F hW hf (Or.inl rfl) dX7_directoriesHold_64
set_option maxHeartbeats 4000000 in
set_option maxRecDepth 100000 in
theorem wXX7_directoriesHold_10_0 {p : Program} {l : Launch} {e : Env} {s : State} {m : MethodId} {args : Array Value} {below : List Frame} {meth : Method} {c : Code} {A : Nat → Prop} {K : KX} (F : fx_ p s m args meth c cX7_directoriesHold 2 (some .boolean) RX7 wsX7_directoriesHold) (σ : XS) (o : (Int32 × XS)) (hf : fXX7_directoriesHold_10_0 (kn K) σ = some o) (H : Heap) (locs : List Loc) (ls : Array Slot) (hl : lv_has ls 2 [(0, .ref (ka K 10))]) (hW : gw_ (kD K) vwCl (tyX K) (wX K) A s σ H locs) : W p l e rXX7_directoriesHold_10 s m args below meth c H locs 0 0 (MQ below (va_Qi (fun r u => (r = o.1 ∧ u = o.2) ∧ (o.1 = 0 ∨ o.1 = 1)) (gw_B (kD K) vwCl (tyX K) (wX K) A) A) args s rXX7_directoriesHold_10.cells rXX7_directoriesHold_10.slots A) (F0 m 0 ls []) := by
  have hx := F.1
  have hb := F.2.1
  have hml := F.2.2.2.1
  have hown := F.2.2.2.2.1
  have hts := F.2.2.2.2.2.1
  have hG : ∀ x ∈ gT, x.before args s = true := fun x h => hts x (List.mem_cons_of_mem _ h)
  unfold fXX7_directoriesHold_10_0 at hf
  refine lv_iconst (v := (2 : Int32)) hx hb dX7_directoriesHold_0 (by decide) ?_
  refine lv_istore_n (lv' := [(1, .int (2 : Int32)), (0, .ref (ka K 10))]) hx hb dX7_directoriesHold_1 rfl hl (by decide) rfl (fun ls hl => ?_)
  exact lfix_ind (P := PXX7_directoriesHold_10_2 p l e s m args below meth c A K) (fun k2 hk2 t o hf => wXX7_directoriesHold_10_2 F hk2 t.1 t.2 o hf) FU _ _ hf _ _ _ (lv_sub hl [1, 0] rfl) hW
set_option maxHeartbeats 4000000 in
set_option maxRecDepth 100000 in
theorem mXX7_directoriesHold_10 {l : Launch} {K : KX} {σ : XS} {o : (Int32 × XS)} (hf : fXX7_directoriesHold_10 (kn K) σ = some o) : gw_Mz l (kD K) vwCl (tyX K) (wX K) yX7_directoriesHold wsX7_directoriesHold rXX7_directoriesHold_10 [.ref (ka K 10)] σ o := by
  intro sz
  refine gw_body (cc := cX7_directoriesHold) (maxL := 2) (yret := some .boolean) (by decide +kernel) rfl ?_ (Nat.le_of_ble_eq_true rfl)
  intro p e s m below meth c F hsz hW ls hl
  exact wXX7_directoriesHold_10_0 F σ o hf s.heap [] ls hl hW
abbrev rXX7_parentOf_10 : Room := { frames := 0, cells := 0, slots := 0, locals := 0 }
set_option maxHeartbeats 4000000 in
set_option maxRecDepth 100000 in
theorem wXX7_parentOf_10_0 {p : Program} {l : Launch} {e : Env} {s : State} {m : MethodId} {args : Array Value} {below : List Frame} {meth : Method} {c : Code} {A : Nat → Prop} {K : KX} (F : fx_ p s m args meth c cX7_parentOf 2 (some .int) RX7 wsX7_parentOf) (x1 : Int32) (σ : XS) (o : (Int32 × XS)) (hf : fXX7_parentOf_10_0 (kn K) x1 σ = some o) (H : Heap) (locs : List Loc) (ls : Array Slot) (hl : lv_has ls 2 [(0, .ref (ka K 10)), (1, .int x1)]) (hW : gw_ (kD K) vwCl (tyX K) (wX K) A s σ H locs) : W p l e rXX7_parentOf_10 s m args below meth c H locs 0 0 (MQ below (gw_Qi (kD K) vwCl (tyX K) (wX K) A o) args s rXX7_parentOf_10.cells rXX7_parentOf_10.slots A) (F0 m 0 ls []) := by
  have hx := F.1
  have hb := F.2.1
  have hml := F.2.2.2.1
  have hown := F.2.2.2.2.1
  have hts := F.2.2.2.2.2.1
  have hG : ∀ x ∈ gT, x.before args s = true := fun x h => hts x (List.mem_cons_of_mem _ h)
  unfold fXX7_parentOf_10_0 at hf
  refine lv_iload_n hx hb dX7_parentOf_0 rfl (lv_at hl 1 rfl) ?_
  refine lv_if_lt (tgt := 22) hx hb dX7_parentOf_1 (by decide) (fun c1 => ?_) (fun c1 => ?_)
  · replace hf := (if_pos c1).symm.trans hf
    refine lv_iconst (v := (0 : Int32)) hx hb dX7_parentOf_22 (by decide) ?_
    exact gw_reti F hW hf dX7_parentOf_23
  · replace hf := (if_neg c1).symm.trans hf
    refine lv_iload_n hx hb dX7_parentOf_4 rfl (lv_at hl 1 rfl) ?_
    refine lv_aload_n hx hb dX7_parentOf_5 rfl (lv_at hl 0 rfl) ?_
    refine gw_get (v := .ref (ka K 15)) F inc_X7 hW 10 7 10 (aX_10 K σ) rfl (by decide) (hG _ q_1_180) (fun _ h9 => h9) rfl dX7_parentOf_6 ?_
    refine gw_alen F hW 15 5 (aX_15 K σ) rfl dX7_parentOf_9 ?_
    refine lv_icmp_ge (tgt := 22) hx hb dX7_parentOf_10 (by decide) (fun c2 => ?_) (fun c2 => ?_)
    · replace hf := (if_pos c2).symm.trans hf
      refine lv_iconst (v := (0 : Int32)) hx hb dX7_parentOf_22 (by decide) ?_
      exact gw_reti F hW hf dX7_parentOf_23
    · replace hf := (if_neg c2).symm.trans hf
      refine lv_aload_n hx hb dX7_parentOf_13 rfl (lv_at hl 0 rfl) ?_
      refine gw_get (v := .ref (ka K 15)) F inc_X7 hW 10 7 10 (aX_10 K σ) rfl (by decide) (hG _ q_1_180) (fun _ h9 => h9) rfl dX7_parentOf_14 ?_
      refine lv_iload_n hx hb dX7_parentOf_17 rfl (lv_at hl 1 rfl) ?_
      rcases Decidable.em (x1 < 0 ∨ 2065 ≤ x1.toNatClampNeg) with c3 | c3
      · replace hf := (if_pos c3).symm.trans hf
        exact absurd hf (by simp)
      · replace hf := (if_neg c3).symm.trans hf
        refine gw_iald F hW 15 5 (aX_15 K σ) rfl c3 dX7_parentOf_18 ?_
        refine lv_goto (tgt := 23) hx hb dX7_parentOf_19 (by decide) ?_
        exact gw_reti F hW hf dX7_parentOf_23
set_option maxHeartbeats 4000000 in
set_option maxRecDepth 100000 in
theorem mXX7_parentOf_10 {l : Launch} {K : KX} {σ : XS} {x1 : Int32} {o : (Int32 × XS)} (hf : fXX7_parentOf_10 (kn K) x1 σ = some o) : gw_Mi l (kD K) vwCl (tyX K) (wX K) yX7_parentOf wsX7_parentOf rXX7_parentOf_10 [.ref (ka K 10), .int x1] σ o := by
  intro sz
  refine gw_body (cc := cX7_parentOf) (maxL := 2) (yret := some .int) (by decide +kernel) rfl ?_ (Nat.le_of_ble_eq_true rfl)
  intro p e s m below meth c F hsz hW ls hl
  exact wXX7_parentOf_10_0 F x1 σ o hf s.heap [] ls hl hW
abbrev rXX7_holderOf_10 : Room := { frames := 0, cells := 0, slots := 0, locals := 0 }
set_option maxHeartbeats 4000000 in
set_option maxRecDepth 100000 in
theorem wXX7_holderOf_10_0 {p : Program} {l : Launch} {e : Env} {s : State} {m : MethodId} {args : Array Value} {below : List Frame} {meth : Method} {c : Code} {A : Nat → Prop} {K : KX} (F : fx_ p s m args meth c cX7_holderOf 2 (some .int) RX7 wsX7_holderOf) (x1 : Int32) (σ : XS) (o : (Int32 × XS)) (hf : fXX7_holderOf_10_0 (kn K) x1 σ = some o) (H : Heap) (locs : List Loc) (ls : Array Slot) (hl : lv_has ls 2 [(0, .ref (ka K 10)), (1, .int x1)]) (hW : gw_ (kD K) vwCl (tyX K) (wX K) A s σ H locs) : W p l e rXX7_holderOf_10 s m args below meth c H locs 0 0 (MQ below (gw_Qi (kD K) vwCl (tyX K) (wX K) A o) args s rXX7_holderOf_10.cells rXX7_holderOf_10.slots A) (F0 m 0 ls []) := by
  have hx := F.1
  have hb := F.2.1
  have hml := F.2.2.2.1
  have hown := F.2.2.2.2.1
  have hts := F.2.2.2.2.2.1
  have hG : ∀ x ∈ gT, x.before args s = true := fun x h => hts x (List.mem_cons_of_mem _ h)
  unfold fXX7_holderOf_10_0 at hf
  refine lv_iload_n hx hb dX7_holderOf_0 rfl (lv_at hl 1 rfl) ?_
  refine lv_if_lt (tgt := 22) hx hb dX7_holderOf_1 (by decide) (fun c1 => ?_) (fun c1 => ?_)
  · replace hf := (if_pos c1).symm.trans hf
    refine lv_iconst (v := (0 : Int32)) hx hb dX7_holderOf_22 (by decide) ?_
    exact gw_reti F hW hf dX7_holderOf_23
  · replace hf := (if_neg c1).symm.trans hf
    refine lv_iload_n hx hb dX7_holderOf_4 rfl (lv_at hl 1 rfl) ?_
    refine lv_aload_n hx hb dX7_holderOf_5 rfl (lv_at hl 0 rfl) ?_
    refine gw_get (v := .ref (ka K 14)) F inc_X7 hW 10 7 9 (aX_10 K σ) rfl (by decide) (hG _ q_1_179) (fun _ h9 => h9) rfl dX7_holderOf_6 ?_
    refine gw_alen F hW 14 4 (aX_14 K σ) rfl dX7_holderOf_9 ?_
    refine lv_icmp_ge (tgt := 22) hx hb dX7_holderOf_10 (by decide) (fun c2 => ?_) (fun c2 => ?_)
    · replace hf := (if_pos c2).symm.trans hf
      refine lv_iconst (v := (0 : Int32)) hx hb dX7_holderOf_22 (by decide) ?_
      exact gw_reti F hW hf dX7_holderOf_23
    · replace hf := (if_neg c2).symm.trans hf
      refine lv_aload_n hx hb dX7_holderOf_13 rfl (lv_at hl 0 rfl) ?_
      refine gw_get (v := .ref (ka K 14)) F inc_X7 hW 10 7 9 (aX_10 K σ) rfl (by decide) (hG _ q_1_179) (fun _ h9 => h9) rfl dX7_holderOf_14 ?_
      refine lv_iload_n hx hb dX7_holderOf_17 rfl (lv_at hl 1 rfl) ?_
      rcases Decidable.em (x1 < 0 ∨ 2065 ≤ x1.toNatClampNeg) with c3 | c3
      · replace hf := (if_pos c3).symm.trans hf
        exact absurd hf (by simp)
      · replace hf := (if_neg c3).symm.trans hf
        refine gw_iald F hW 14 4 (aX_14 K σ) rfl c3 dX7_holderOf_18 ?_
        refine lv_goto (tgt := 23) hx hb dX7_holderOf_19 (by decide) ?_
        exact gw_reti F hW hf dX7_holderOf_23
set_option maxHeartbeats 4000000 in
set_option maxRecDepth 100000 in
theorem mXX7_holderOf_10 {l : Launch} {K : KX} {σ : XS} {x1 : Int32} {o : (Int32 × XS)} (hf : fXX7_holderOf_10 (kn K) x1 σ = some o) : gw_Mi l (kD K) vwCl (tyX K) (wX K) yX7_holderOf wsX7_holderOf rXX7_holderOf_10 [.ref (ka K 10), .int x1] σ o := by
  intro sz
  refine gw_body (cc := cX7_holderOf) (maxL := 2) (yret := some .int) (by decide +kernel) rfl ?_ (Nat.le_of_ble_eq_true rfl)
  intro p e s m below meth c F hsz hW ls hl
  exact wXX7_holderOf_10_0 F x1 σ o hf s.heap [] ls hl hW
abbrev rXX7_parentHolds_10 : Room := { frames := 1, cells := 0, slots := 0, locals := 21 }
def PXX7_parentHolds_10_19 (p : Program) (l : Launch) (e : Env) (s : State) (m : MethodId) (args : Array Value) (below : List Frame) (meth : Method) (c : Code) (A : Nat → Prop) (K : KX) (t : (Int32 × Int32 × XS)) (o : (Int32 × XS)) : Prop := ∀ (H : Heap) (locs : List Loc) (ls : Array Slot), lv_has ls 4 [(0, .ref (ka K 10)), (2, .int t.1), (3, .int t.2.1)] → gw_ (kD K) vwCl (tyX K) (wX K) A s t.2.2 H locs → W p l e rXX7_parentHolds_10 s m args below meth c H locs 0 0 (MQ below (va_Qi (fun r u => (r = o.1 ∧ u = o.2) ∧ (o.1 = 0 ∨ o.1 = 1)) (gw_B (kD K) vwCl (tyX K) (wX K) A) A) args s rXX7_parentHolds_10.cells rXX7_parentHolds_10.slots A) (F0 m 19 ls [])
set_option maxHeartbeats 4000000 in
set_option maxRecDepth 100000 in
theorem wXX7_parentHolds_10_47 {p : Program} {l : Launch} {e : Env} {s : State} {m : MethodId} {args : Array Value} {below : List Frame} {meth : Method} {c : Code} {A : Nat → Prop} {K : KX} (F : fx_ p s m args meth c cX7_parentHolds 4 (some .boolean) RX7 wsX7_parentHolds) (x2 : Int32) (σ : XS) (o : (Int32 × XS)) (hf : fXX7_parentHolds_10_47 (kn K) x2 σ = some o) (H : Heap) (locs : List Loc) (ls : Array Slot) (hl : lv_has ls 4 [(2, .int x2)]) (hW : gw_ (kD K) vwCl (tyX K) (wX K) A s σ H locs) : W p l e rXX7_parentHolds_10 s m args below meth c H locs 0 0 (MQ below (va_Qi (fun r u => (r = o.1 ∧ u = o.2) ∧ (o.1 = 0 ∨ o.1 = 1)) (gw_B (kD K) vwCl (tyX K) (wX K) A) A) args s rXX7_parentHolds_10.cells rXX7_parentHolds_10.slots A) (F0 m 47 ls []) := by
  have hx := F.1
  have hb := F.2.1
  have hml := F.2.2.2.1
  have hown := F.2.2.2.2.1
  have hts := F.2.2.2.2.2.1
  have hG : ∀ x ∈ gT, x.before args s = true := fun x h => hts x (List.mem_cons_of_mem _ h)
  unfold fXX7_parentHolds_10_47 at hf
  refine lv_iload_n hx hb dX7_parentHolds_47 rfl (lv_at hl 0 rfl) ?_
  refine lv_iconst (v := (2 : Int32)) hx hb dX7_parentHolds_48 (by decide) ?_
  refine lv_icmp_ne (tgt := 56) hx hb dX7_parentHolds_49 (by decide) (fun c9 => ?_) (fun c9 => ?_)
  · replace hf := (if_neg c9).symm.trans hf
    refine lv_iconst (v := (0 : Int32)) hx hb dX7_parentHolds_56 (by decide) ?_
    exact gw_retz F hW hf (Or.inl rfl) dX7_parentHolds_57
  · replace hf := (if_pos c9).symm.trans hf
    refine lv_iconst (v := (1 : Int32)) hx hb dX7_parentHolds_52 (by decide) ?_
    refine lv_goto (tgt := 57) hx hb dX7_parentHolds_53 (by decide) ?_
    exact gw_retz F hW hf (Or.inr rfl) dX7_parentHolds_57
set_option maxHeartbeats 4000000 in
set_option maxRecDepth 100000 in
theorem wXX7_parentHolds_10_19 {p : Program} {l : Launch} {e : Env} {s : State} {m : MethodId} {args : Array Value} {below : List Frame} {meth : Method} {c : Code} {A : Nat → Prop} {K : KX} (F : fx_ p s m args meth c cX7_parentHolds 4 (some .boolean) RX7 wsX7_parentHolds) {k19 : (Int32 × Int32 × XS) → Option (Int32 × XS)} (hk19 : ∀ t o, k19 t = some o → PXX7_parentHolds_10_19 p l e s m args below meth c A K t o) (x2 : Int32) (x3 : Int32) (σ : XS) (o : (Int32 × XS)) (hf : fXX7_parentHolds_10_19 (kn K) k19 x2 x3 σ = some o) (H : Heap) (locs : List Loc) (ls : Array Slot) (hl : lv_has ls 4 [(0, .ref (ka K 10)), (2, .int x2), (3, .int x3)]) (hW : gw_ (kD K) vwCl (tyX K) (wX K) A s σ H locs) : W p l e rXX7_parentHolds_10 s m args below meth c H locs 0 0 (MQ below (va_Qi (fun r u => (r = o.1 ∧ u = o.2) ∧ (o.1 = 0 ∨ o.1 = 1)) (gw_B (kD K) vwCl (tyX K) (wX K) A) A) args s rXX7_parentHolds_10.cells rXX7_parentHolds_10.slots A) (F0 m 19 ls []) := by
  have hx := F.1
  have hb := F.2.1
  have hml := F.2.2.2.1
  have hown := F.2.2.2.2.1
  have hts := F.2.2.2.2.2.1
  have hG : ∀ x ∈ gT, x.before args s = true := fun x h => hts x (List.mem_cons_of_mem _ h)
  unfold fXX7_parentHolds_10_19 at hf
  refine lv_iload_n hx hb dX7_parentHolds_19 rfl (lv_at hl 2 rfl) ?_
  refine lv_sipush (v := (2064 : Int32)) hx hb dX7_parentHolds_20 (by decide) ?_
  refine lv_icmp_ge (tgt := 47) hx hb dX7_parentHolds_23 (by decide) (fun c8 => ?_) (fun c8 => ?_)
  · replace hf := (if_pos c8).symm.trans hf
    exact wXX7_parentHolds_10_47 F x2 _ _ hf _ _ _ (lv_sub hl [1] rfl) hW
  · replace hf := (if_neg c8).symm.trans hf
    refine lv_iload_n hx hb dX7_parentHolds_26 rfl (lv_at hl 1 rfl) ?_
    refine lv_iconst (v := (2 : Int32)) hx hb dX7_parentHolds_27 (by decide) ?_
    refine lv_icmp_eq (tgt := 47) hx hb dX7_parentHolds_28 (by decide) (fun c10 => ?_) (fun c10 => ?_)
    · replace hf := (if_pos c10).symm.trans hf
      exact wXX7_parentHolds_10_47 F x2 _ _ hf _ _ _ (lv_sub hl [1] rfl) hW
    · replace hf := (if_neg c10).symm.trans hf
      refine lv_iload_n hx hb dX7_parentHolds_31 rfl (lv_at hl 1 rfl) ?_
      refine lv_if_eq (tgt := 47) hx hb dX7_parentHolds_32 (by decide) (fun c11 => ?_) (fun c11 => ?_)
      · replace hf := (if_pos c11).symm.trans hf
        exact wXX7_parentHolds_10_47 F x2 _ _ hf _ _ _ (lv_sub hl [1] rfl) hW
      · replace hf := (if_neg c11).symm.trans hf
        refine lv_aload_n hx hb dX7_parentHolds_35 rfl (lv_at hl 0 rfl) ?_
        refine lv_iload_n hx hb dX7_parentHolds_36 rfl (lv_at hl 1 rfl) ?_
        obtain ⟨o12, h13, hf⟩ := gw_bind hf
        refine gw_Vi (As := [.int x2]) (mc' := 0) (ms' := 0) F hW (mXX7_holderOf_10 h13) (cwV 1 hts (gT_V q_3_3 q_3_5 qp_15 q_1_9 q_3_6) rfl rfl rfl hdX7_holderOf ⟨Nat.le_of_ble_eq_true rfl, Nat.le_of_ble_eq_true rfl⟩) 10 7 (aX_10 K σ) rfl rfl hl.1 rfl (Nat.le_of_ble_eq_true rfl) dX7_parentHolds_37 ⟨Nat.le_of_ble_eq_true rfl, Nat.le_of_ble_eq_true rfl⟩ rfl rfl (fun H locs hW => ?_)
        refine lv_istore_n (lv' := [(2, .int o12.1), (0, .ref (ka K 10)), (3, .int x3)]) hx hb dX7_parentHolds_40 rfl hl (by decide) rfl (fun ls hl => ?_)
        refine lv_iinc (v := (x3 + (1 : Int32))) (lv' := [(3, .int (x3 + (1 : Int32))), (2, .int o12.1), (0, .ref (ka K 10))]) hx hb dX7_parentHolds_41 hl (k := 2) rfl rfl (by decide) rfl (fun ls hl => ?_)
        refine lv_goto (tgt := 19) hx hb dX7_parentHolds_44 (by decide) ?_
        exact hk19 _ _ hf _ _ _ (lv_sub hl [2, 1, 0] rfl) hW
set_option maxHeartbeats 4000000 in
set_option maxRecDepth 100000 in
theorem wXX7_parentHolds_10_0 {p : Program} {l : Launch} {e : Env} {s : State} {m : MethodId} {args : Array Value} {below : List Frame} {meth : Method} {c : Code} {A : Nat → Prop} {K : KX} (F : fx_ p s m args meth c cX7_parentHolds 4 (some .boolean) RX7 wsX7_parentHolds) (x1 : Int32) (σ : XS) (o : (Int32 × XS)) (hf : fXX7_parentHolds_10_0 (kn K) x1 σ = some o) (H : Heap) (locs : List Loc) (ls : Array Slot) (hl : lv_has ls 4 [(0, .ref (ka K 10)), (1, .int x1)]) (hW : gw_ (kD K) vwCl (tyX K) (wX K) A s σ H locs) : W p l e rXX7_parentHolds_10 s m args below meth c H locs 0 0 (MQ below (va_Qi (fun r u => (r = o.1 ∧ u = o.2) ∧ (o.1 = 0 ∨ o.1 = 1)) (gw_B (kD K) vwCl (tyX K) (wX K) A) A) args s rXX7_parentHolds_10.cells rXX7_parentHolds_10.slots A) (F0 m 0 ls []) := by
  have hx := F.1
  have hb := F.2.1
  have hml := F.2.2.2.1
  have hown := F.2.2.2.2.1
  have hts := F.2.2.2.2.2.1
  have hG : ∀ x ∈ gT, x.before args s = true := fun x h => hts x (List.mem_cons_of_mem _ h)
  unfold fXX7_parentHolds_10_0 at hf
  refine lv_aload_n hx hb dX7_parentHolds_0 rfl (lv_at hl 0 rfl) ?_
  refine lv_iload_n hx hb dX7_parentHolds_1 rfl (lv_at hl 1 rfl) ?_
  obtain ⟨o1, h2, hf⟩ := gw_bind hf
  refine gw_Vi (As := [.int x1]) (mc' := 0) (ms' := 0) F hW (mXX7_parentOf_10 h2) (cwV 1 hts (gT_V q_3_11 q_3_13 qp_17 q_1_9 q_3_14) rfl rfl rfl hdX7_parentOf ⟨Nat.le_of_ble_eq_true rfl, Nat.le_of_ble_eq_true rfl⟩) 10 7 (aX_10 K σ) rfl rfl hl.1 rfl (Nat.le_of_ble_eq_true rfl) dX7_parentHolds_2 ⟨Nat.le_of_ble_eq_true rfl, Nat.le_of_ble_eq_true rfl⟩ rfl rfl (fun H locs hW => ?_)
  refine lv_aload_n hx hb dX7_parentHolds_5 rfl (lv_at hl 0 rfl) ?_
  refine lv_iload_n hx hb dX7_parentHolds_6 rfl (lv_at hl 1 rfl) ?_
  obtain ⟨o4, h5, hf⟩ := gw_bind hf
  refine gw_Vi (As := [.int x1]) (mc' := 0) (ms' := 0) F hW (mXX7_holderOf_10 h5) (cwV 1 hts (gT_V q_3_3 q_3_5 qp_15 q_1_9 q_3_6) rfl rfl rfl hdX7_holderOf ⟨Nat.le_of_ble_eq_true rfl, Nat.le_of_ble_eq_true rfl⟩) 10 7 (aX_10 K o1.2) rfl rfl hl.1 rfl (Nat.le_of_ble_eq_true rfl) dX7_parentHolds_7 ⟨Nat.le_of_ble_eq_true rfl, Nat.le_of_ble_eq_true rfl⟩ rfl rfl (fun H locs hW => ?_)
  refine lv_icmp_eq (tgt := 15) hx hb dX7_parentHolds_10 (by decide) (fun c7 => ?_) (fun c7 => ?_)
  · replace hf := (if_pos c7).symm.trans hf
    refine lv_iload_n hx hb dX7_parentHolds_15 rfl (lv_at hl 1 rfl) ?_
    refine lv_istore_n (lv' := [(2, .int x1), (0, .ref (ka K 10)), (1, .int x1)]) hx hb dX7_parentHolds_16 rfl hl (by decide) rfl (fun ls hl => ?_)
    refine lv_iconst (v := (0 : Int32)) hx hb dX7_parentHolds_17 (by decide) ?_
    refine lv_istore_n (lv' := [(3, .int (0 : Int32)), (2, .int x1), (0, .ref (ka K 10)), (1, .int x1)]) hx hb dX7_parentHolds_18 rfl hl (by decide) rfl (fun ls hl => ?_)
    exact lfix_ind (P := PXX7_parentHolds_10_19 p l e s m args below meth c A K) (fun k19 hk19 t o hf => wXX7_parentHolds_10_19 F hk19 t.1 t.2.1 t.2.2 o hf) FU _ _ hf _ _ _ (lv_sub hl [2, 1, 0] rfl) hW
  · replace hf := (if_neg c7).symm.trans hf
    refine lv_iconst (v := (0 : Int32)) hx hb dX7_parentHolds_13 (by decide) ?_
    exact gw_retz F hW hf (Or.inl rfl) dX7_parentHolds_14
set_option maxHeartbeats 4000000 in
set_option maxRecDepth 100000 in
theorem mXX7_parentHolds_10 {l : Launch} {K : KX} {σ : XS} {x1 : Int32} {o : (Int32 × XS)} (hf : fXX7_parentHolds_10 (kn K) x1 σ = some o) : gw_Mz l (kD K) vwCl (tyX K) (wX K) yX7_parentHolds wsX7_parentHolds rXX7_parentHolds_10 [.ref (ka K 10), .int x1] σ o := by
  intro sz
  refine gw_body (cc := cX7_parentHolds) (maxL := 4) (yret := some .boolean) (by decide +kernel) rfl ?_ (Nat.le_of_ble_eq_true rfl)
  intro p e s m below meth c F hsz hW ls hl
  exact wXX7_parentHolds_10_0 F x1 σ o hf s.heap [] ls hl hW
abbrev rXX7_treeHolds_10 : Room := { frames := 2, cells := 0, slots := 0, locals := 44 }
def PXX7_treeHolds_10_3 (p : Program) (l : Launch) (e : Env) (s : State) (m : MethodId) (args : Array Value) (below : List Frame) (meth : Method) (c : Code) (A : Nat → Prop) (K : KX) (t : (Int32 × XS)) (o : (Int32 × XS)) : Prop := ∀ (H : Heap) (locs : List Loc) (ls : Array Slot), lv_has ls 3 [(0, .ref (ka K 10)), (1, .int t.1)] → gw_ (kD K) vwCl (tyX K) (wX K) A s t.2 H locs → W p l e rXX7_treeHolds_10 s m args below meth c H locs 0 0 (MQ below (va_Qi (fun r u => (r = o.1 ∧ u = o.2) ∧ (o.1 = 0 ∨ o.1 = 1)) (gw_B (kD K) vwCl (tyX K) (wX K) A) A) args s rXX7_treeHolds_10.cells rXX7_treeHolds_10.slots A) (F0 m 3 ls [])
set_option maxHeartbeats 4000000 in
set_option maxRecDepth 100000 in
theorem wXX7_treeHolds_10_92 {p : Program} {l : Launch} {e : Env} {s : State} {m : MethodId} {args : Array Value} {below : List Frame} {meth : Method} {c : Code} {A : Nat → Prop} {K : KX} (F : fx_ p s m args meth c cX7_treeHolds 3 (some .boolean) RX7 wsX7_treeHolds) {k3 : (Int32 × XS) → Option (Int32 × XS)} (hk3 : ∀ t o, k3 t = some o → PXX7_treeHolds_10_3 p l e s m args below meth c A K t o) (x1 : Int32) (σ : XS) (o : (Int32 × XS)) (hf : fXX7_treeHolds_10_92 (kn K) k3 x1 σ = some o) (H : Heap) (locs : List Loc) (ls : Array Slot) (hl : lv_has ls 3 [(0, .ref (ka K 10)), (1, .int x1)]) (hW : gw_ (kD K) vwCl (tyX K) (wX K) A s σ H locs) : W p l e rXX7_treeHolds_10 s m args below meth c H locs 0 0 (MQ below (va_Qi (fun r u => (r = o.1 ∧ u = o.2) ∧ (o.1 = 0 ∨ o.1 = 1)) (gw_B (kD K) vwCl (tyX K) (wX K) A) A) args s rXX7_treeHolds_10.cells rXX7_treeHolds_10.slots A) (F0 m 92 ls []) := by
  have hx := F.1
  have hb := F.2.1
  have hml := F.2.2.2.1
  have hown := F.2.2.2.2.1
  have hts := F.2.2.2.2.2.1
  have hG : ∀ x ∈ gT, x.before args s = true := fun x h => hts x (List.mem_cons_of_mem _ h)
  unfold fXX7_treeHolds_10_92 at hf
  refine lv_iinc (v := (x1 + (1 : Int32))) (lv' := [(1, .int (x1 + (1 : Int32))), (0, .ref (ka K 10))]) hx hb dX7_treeHolds_92 hl (k := 1) rfl rfl (by decide) rfl (fun ls hl => ?_)
  refine lv_goto (tgt := 3) hx hb dX7_treeHolds_95 (by decide) ?_
  exact hk3 _ _ hf _ _ _ (lv_sub hl [1, 0] rfl) hW
set_option maxHeartbeats 4000000 in
set_option maxRecDepth 100000 in
theorem wXX7_treeHolds_10_71 {p : Program} {l : Launch} {e : Env} {s : State} {m : MethodId} {args : Array Value} {below : List Frame} {meth : Method} {c : Code} {A : Nat → Prop} {K : KX} (F : fx_ p s m args meth c cX7_treeHolds 3 (some .boolean) RX7 wsX7_treeHolds) {k3 : (Int32 × XS) → Option (Int32 × XS)} (hk3 : ∀ t o, k3 t = some o → PXX7_treeHolds_10_3 p l e s m args below meth c A K t o) (x1 : Int32) (σ : XS) (o : (Int32 × XS)) (hf : fXX7_treeHolds_10_71 (kn K) k3 x1 σ = some o) (H : Heap) (locs : List Loc) (ls : Array Slot) (hl : lv_has ls 3 [(0, .ref (ka K 10)), (1, .int x1)]) (hW : gw_ (kD K) vwCl (tyX K) (wX K) A s σ H locs) : W p l e rXX7_treeHolds_10 s m args below meth c H locs 0 0 (MQ below (va_Qi (fun r u => (r = o.1 ∧ u = o.2) ∧ (o.1 = 0 ∨ o.1 = 1)) (gw_B (kD K) vwCl (tyX K) (wX K) A) A) args s rXX7_treeHolds_10.cells rXX7_treeHolds_10.slots A) (F0 m 71 ls []) := by
  have hx := F.1
  have hb := F.2.1
  have hml := F.2.2.2.1
  have hown := F.2.2.2.2.1
  have hts := F.2.2.2.2.2.1
  have hG : ∀ x ∈ gT, x.before args s = true := fun x h => hts x (List.mem_cons_of_mem _ h)
  unfold fXX7_treeHolds_10_71 at hf
  refine lv_aload_n hx hb dX7_treeHolds_71 rfl (lv_at hl 0 rfl) ?_
  refine gw_get (v := .ref (ka K 6)) F inc_X7 hW 10 7 4 (aX_10 K σ) rfl (by decide) (hG _ q_1_174) (fun _ h9 => h9) rfl dX7_treeHolds_72 ?_
  refine lv_iload_n hx hb dX7_treeHolds_75 rfl (lv_at hl 1 rfl) ?_
  obtain ⟨o22, h23, hf⟩ := gw_bind hf
  refine gw_Vz (As := [.int x1]) (mc' := 0) (ms' := 0) F hW (mXX4_isDirectory_6 h23) (cwV 1 hts (gT_V q_2_143 q_2_144 q_2_145 q_1_6 q_2_146) rfl rfl rfl hdX4_isDirectory ⟨Nat.le_of_ble_eq_true rfl, Nat.le_of_ble_eq_true rfl⟩) 6 4 (aX_6 K σ) rfl rfl hl.1 rfl (Nat.le_of_ble_eq_true rfl) dX7_treeHolds_76 ⟨Nat.le_of_ble_eq_true rfl, Nat.le_of_ble_eq_true rfl⟩ rfl rfl (fun H locs z24 hW => ?_)
  refine lv_if_eq (tgt := 92) hx hb dX7_treeHolds_79 (by decide) (fun c25 => ?_) (fun c25 => ?_)
  · replace hf := (if_pos c25).symm.trans hf
    exact wXX7_treeHolds_10_92 F hk3 x1 _ _ hf _ _ _ (lv_sub hl [0, 1] rfl) hW
  · replace hf := (if_neg c25).symm.trans hf
    refine lv_aload_n hx hb dX7_treeHolds_82 rfl (lv_at hl 0 rfl) ?_
    refine lv_iload_n hx hb dX7_treeHolds_83 rfl (lv_at hl 1 rfl) ?_
    obtain ⟨o26, h27, hf⟩ := gw_bind hf
    refine gw_Vz (As := [.int x1]) (mc' := 0) (ms' := 0) F hW (mXX7_parentHolds_10 h27) (cwV 1 hts (gT_V q_3_7 q_3_9 qp_16 q_1_9 q_3_10) rfl rfl rfl hdX7_parentHolds ⟨Nat.le_of_ble_eq_true rfl, Nat.le_of_ble_eq_true rfl⟩) 10 7 (aX_10 K o22.2) rfl rfl hl.1 rfl (Nat.le_of_ble_eq_true rfl) dX7_treeHolds_84 ⟨Nat.le_of_ble_eq_true rfl, Nat.le_of_ble_eq_true rfl⟩ rfl rfl (fun H locs z28 hW => ?_)
    refine lv_if_ne (tgt := 92) hx hb dX7_treeHolds_87 (by decide) (fun c29 => ?_) (fun c29 => ?_)
    · replace hf := (if_neg c29).symm.trans hf
      exact wXX7_treeHolds_10_92 F hk3 x1 _ _ hf _ _ _ (lv_sub hl [0, 1] rfl) hW
    · replace hf := (if_pos c29).symm.trans hf
      refine lv_iconst (v := (0 : Int32)) hx hb dX7_treeHolds_90 (by decide) ?_
      exact gw_retz F hW hf (Or.inl rfl) dX7_treeHolds_91
set_option maxHeartbeats 4000000 in
set_option maxRecDepth 100000 in
theorem wXX7_treeHolds_10_27 {p : Program} {l : Launch} {e : Env} {s : State} {m : MethodId} {args : Array Value} {below : List Frame} {meth : Method} {c : Code} {A : Nat → Prop} {K : KX} (F : fx_ p s m args meth c cX7_treeHolds 3 (some .boolean) RX7 wsX7_treeHolds) {k3 : (Int32 × XS) → Option (Int32 × XS)} (hk3 : ∀ t o, k3 t = some o → PXX7_treeHolds_10_3 p l e s m args below meth c A K t o) (x1 : Int32) (y0 : Int32) (σ : XS) (o : (Int32 × XS)) (hf : fXX7_treeHolds_10_27 (kn K) k3 x1 y0 σ = some o) (H : Heap) (locs : List Loc) (ls : Array Slot) (hl : lv_has ls 3 [(0, .ref (ka K 10)), (1, .int x1)]) (hW : gw_ (kD K) vwCl (tyX K) (wX K) A s σ H locs) : W p l e rXX7_treeHolds_10 s m args below meth c H locs 0 0 (MQ below (va_Qi (fun r u => (r = o.1 ∧ u = o.2) ∧ (o.1 = 0 ∨ o.1 = 1)) (gw_B (kD K) vwCl (tyX K) (wX K) A) A) args s rXX7_treeHolds_10.cells rXX7_treeHolds_10.slots A) (F0 m 27 ls [.int y0]) := by
  have hx := F.1
  have hb := F.2.1
  have hml := F.2.2.2.1
  have hown := F.2.2.2.2.1
  have hts := F.2.2.2.2.2.1
  have hG : ∀ x ∈ gT, x.before args s = true := fun x h => hts x (List.mem_cons_of_mem _ h)
  unfold fXX7_treeHolds_10_27 at hf
  refine lv_istore_n (lv' := [(2, .int y0), (0, .ref (ka K 10)), (1, .int x1)]) hx hb dX7_treeHolds_27 rfl hl (by decide) rfl (fun ls hl => ?_)
  refine lv_iload_n hx hb dX7_treeHolds_28 rfl (lv_at hl 0 rfl) ?_
  refine lv_aload_n hx hb dX7_treeHolds_29 rfl (lv_at hl 1 rfl) ?_
  refine gw_get (v := .ref (ka K 5)) F inc_X7 hW 10 7 3 (aX_10 K σ) rfl (by decide) (hG _ q_1_173) (fun _ h9 => h9) rfl dX7_treeHolds_30 ?_
  refine lv_iload_n hx hb dX7_treeHolds_33 rfl (lv_at hl 2 rfl) ?_
  obtain ⟨o17, h18, hf⟩ := gw_bind hf
  refine gw_Vz (As := [.int x1]) (mc' := 0) (ms' := 0) F hW (mXX3_isUsed_5 h18) (cwV 1 hts (gT_V q_2_104 q_2_48 q_2_49 q_1_5 q_2_50) rfl rfl rfl hdX3_isUsed ⟨Nat.le_of_ble_eq_true rfl, Nat.le_of_ble_eq_true rfl⟩) 5 3 (aX_5 K σ) rfl rfl hl.1 rfl (Nat.le_of_ble_eq_true rfl) dX7_treeHolds_34 ⟨Nat.le_of_ble_eq_true rfl, Nat.le_of_ble_eq_true rfl⟩ rfl rfl (fun H locs z19 hW => ?_)
  refine lv_icmp_eq (tgt := 42) hx hb dX7_treeHolds_37 (by decide) (fun c20 => ?_) (fun c20 => ?_)
  · replace hf := (if_pos c20).symm.trans hf
    refine lv_iload_n hx hb dX7_treeHolds_42 rfl (lv_at hl 0 rfl) ?_
    refine lv_if_eq (tgt := 71) hx hb dX7_treeHolds_43 (by decide) (fun c21 => ?_) (fun c21 => ?_)
    · replace hf := (if_pos c21).symm.trans hf
      exact wXX7_treeHolds_10_71 F hk3 x1 _ _ hf _ _ _ (lv_sub hl [1, 2] rfl) hW
    · replace hf := (if_neg c21).symm.trans hf
      refine lv_aload_n hx hb dX7_treeHolds_46 rfl (lv_at hl 1 rfl) ?_
      refine gw_get (v := .ref (ka K 6)) F inc_X7 hW 10 7 4 (aX_10 K o17.2) rfl (by decide) (hG _ q_1_174) (fun _ h9 => h9) rfl dX7_treeHolds_47 ?_
      refine lv_iload_n hx hb dX7_treeHolds_50 rfl (lv_at hl 2 rfl) ?_
      obtain ⟨o30, h31, hf⟩ := gw_bind hf
      refine gw_Vz (As := [.int x1]) (mc' := 0) (ms' := 0) F hW (mXX4_isDirectory_6 h31) (cwV 1 hts (gT_V q_2_143 q_2_144 q_2_145 q_1_6 q_2_146) rfl rfl rfl hdX4_isDirectory ⟨Nat.le_of_ble_eq_true rfl, Nat.le_of_ble_eq_true rfl⟩) 6 4 (aX_6 K o17.2) rfl rfl hl.1 rfl (Nat.le_of_ble_eq_true rfl) dX7_treeHolds_51 ⟨Nat.le_of_ble_eq_true rfl, Nat.le_of_ble_eq_true rfl⟩ rfl rfl (fun H locs z32 hW => ?_)
      refine lv_if_ne (tgt := 71) hx hb dX7_treeHolds_54 (by decide) (fun c33 => ?_) (fun c33 => ?_)
      · replace hf := (if_neg c33).symm.trans hf
        exact wXX7_treeHolds_10_71 F hk3 x1 _ _ hf _ _ _ (lv_sub hl [1, 2] rfl) hW
      · replace hf := (if_pos c33).symm.trans hf
        refine lv_aload_n hx hb dX7_treeHolds_57 rfl (lv_at hl 1 rfl) ?_
        refine gw_get (v := .ref (ka K 6)) F inc_X7 hW 10 7 4 (aX_10 K o30.2) rfl (by decide) (hG _ q_1_174) (fun _ h9 => h9) rfl dX7_treeHolds_58 ?_
        refine lv_iload_n hx hb dX7_treeHolds_61 rfl (lv_at hl 2 rfl) ?_
        obtain ⟨o34, h35, hf⟩ := gw_bind hf
        refine gw_Vi (As := [.int x1]) (mc' := 0) (ms' := 0) F hW (mXX4_links_6 h35) (cwV 1 hts (gT_V q_2_235 q_2_236 q_2_237 q_1_6 q_2_238) rfl rfl rfl hdX4_links ⟨Nat.le_of_ble_eq_true rfl, Nat.le_of_ble_eq_true rfl⟩) 6 4 (aX_6 K o30.2) rfl rfl hl.1 rfl (Nat.le_of_ble_eq_true rfl) dX7_treeHolds_62 ⟨Nat.le_of_ble_eq_true rfl, Nat.le_of_ble_eq_true rfl⟩ rfl rfl (fun H locs hW => ?_)
        refine lv_iconst (v := (1 : Int32)) hx hb dX7_treeHolds_65 (by decide) ?_
        refine lv_icmp_eq (tgt := 71) hx hb dX7_treeHolds_66 (by decide) (fun c37 => ?_) (fun c37 => ?_)
        · replace hf := (if_pos c37).symm.trans hf
          exact wXX7_treeHolds_10_71 F hk3 x1 _ _ hf _ _ _ (lv_sub hl [1, 2] rfl) hW
        · replace hf := (if_neg c37).symm.trans hf
          refine lv_iconst (v := (0 : Int32)) hx hb dX7_treeHolds_69 (by decide) ?_
          exact gw_retz F hW hf (Or.inl rfl) dX7_treeHolds_70
  · replace hf := (if_neg c20).symm.trans hf
    refine lv_iconst (v := (0 : Int32)) hx hb dX7_treeHolds_40 (by decide) ?_
    exact gw_retz F hW hf (Or.inl rfl) dX7_treeHolds_41
set_option maxHeartbeats 4000000 in
set_option maxRecDepth 100000 in
theorem wXX7_treeHolds_10_3 {p : Program} {l : Launch} {e : Env} {s : State} {m : MethodId} {args : Array Value} {below : List Frame} {meth : Method} {c : Code} {A : Nat → Prop} {K : KX} (F : fx_ p s m args meth c cX7_treeHolds 3 (some .boolean) RX7 wsX7_treeHolds) {k3 : (Int32 × XS) → Option (Int32 × XS)} (hk3 : ∀ t o, k3 t = some o → PXX7_treeHolds_10_3 p l e s m args below meth c A K t o) (x1 : Int32) (σ : XS) (o : (Int32 × XS)) (hf : fXX7_treeHolds_10_3 (kn K) k3 x1 σ = some o) (H : Heap) (locs : List Loc) (ls : Array Slot) (hl : lv_has ls 3 [(0, .ref (ka K 10)), (1, .int x1)]) (hW : gw_ (kD K) vwCl (tyX K) (wX K) A s σ H locs) : W p l e rXX7_treeHolds_10 s m args below meth c H locs 0 0 (MQ below (va_Qi (fun r u => (r = o.1 ∧ u = o.2) ∧ (o.1 = 0 ∨ o.1 = 1)) (gw_B (kD K) vwCl (tyX K) (wX K) A) A) args s rXX7_treeHolds_10.cells rXX7_treeHolds_10.slots A) (F0 m 3 ls []) := by
  have hx := F.1
  have hb := F.2.1
  have hml := F.2.2.2.1
  have hown := F.2.2.2.2.1
  have hts := F.2.2.2.2.2.1
  have hG : ∀ x ∈ gT, x.before args s = true := fun x h => hts x (List.mem_cons_of_mem _ h)
  unfold fXX7_treeHolds_10_3 at hf
  refine lv_iload_n hx hb dX7_treeHolds_3 rfl (lv_at hl 1 rfl) ?_
  refine lv_aload_n hx hb dX7_treeHolds_4 rfl (lv_at hl 0 rfl) ?_
  refine gw_get (v := .ref (ka K 3)) F inc_X7 hW 10 7 1 (aX_10 K σ) rfl (by decide) (hG _ q_1_171) (fun _ h9 => h9) rfl dX7_treeHolds_5 ?_
  obtain ⟨o1, h2, hf⟩ := gw_bind hf
  refine gw_Vi (As := []) (mc' := 0) (ms' := 0) F hW (mXX2_inodes_3 h2) (cwV 0 hts (gT_V q_2_96 q_2_97 q_2_98 q_1_4 q_2_99) rfl rfl rfl hdX2_inodes ⟨Nat.le_of_ble_eq_true rfl, Nat.le_of_ble_eq_true rfl⟩) 3 2 (aX_3 K σ) rfl rfl hl.1 rfl (Nat.le_of_ble_eq_true rfl) dX7_treeHolds_8 ⟨Nat.le_of_ble_eq_true rfl, Nat.le_of_ble_eq_true rfl⟩ rfl rfl (fun H locs hW => ?_)
  refine lv_icmp_gt (tgt := 98) hx hb dX7_treeHolds_11 (by decide) (fun c4 => ?_) (fun c4 => ?_)
  · replace hf := (if_pos c4).symm.trans hf
    refine lv_aload_n hx hb dX7_treeHolds_98 rfl (lv_at hl 0 rfl) ?_
    refine gw_get (v := .ref (ka K 6)) F inc_X7 hW 10 7 4 (aX_10 K o1.2) rfl (by decide) (hG _ q_1_174) (fun _ h9 => h9) rfl dX7_treeHolds_99 ?_
    refine lv_iconst (v := (2 : Int32)) hx hb dX7_treeHolds_102 (by decide) ?_
    obtain ⟨o5, h6, hf⟩ := gw_bind hf
    refine gw_Vz (As := [.int (2 : Int32)]) (mc' := 0) (ms' := 0) F hW (mXX4_isDirectory_6 h6) (cwV 1 hts (gT_V q_2_143 q_2_144 q_2_145 q_1_6 q_2_146) rfl rfl rfl hdX4_isDirectory ⟨Nat.le_of_ble_eq_true rfl, Nat.le_of_ble_eq_true rfl⟩) 6 4 (aX_6 K o1.2) rfl rfl hl.1 rfl (Nat.le_of_ble_eq_true rfl) dX7_treeHolds_103 ⟨Nat.le_of_ble_eq_true rfl, Nat.le_of_ble_eq_true rfl⟩ rfl rfl (fun H locs z7 hW => ?_)
    refine lv_if_eq (tgt := 122) hx hb dX7_treeHolds_106 (by decide) (fun c8 => ?_) (fun c8 => ?_)
    · replace hf := (if_pos c8).symm.trans hf
      refine lv_iconst (v := (0 : Int32)) hx hb dX7_treeHolds_122 (by decide) ?_
      exact gw_retz F hW hf (Or.inl rfl) dX7_treeHolds_123
    · replace hf := (if_neg c8).symm.trans hf
      refine lv_aload_n hx hb dX7_treeHolds_109 rfl (lv_at hl 0 rfl) ?_
      refine lv_iconst (v := (2 : Int32)) hx hb dX7_treeHolds_110 (by decide) ?_
      obtain ⟨o9, h10, hf⟩ := gw_bind hf
      refine gw_Vi (As := [.int (2 : Int32)]) (mc' := 0) (ms' := 0) F hW (mXX7_parentOf_10 h10) (cwV 1 hts (gT_V q_3_11 q_3_13 qp_17 q_1_9 q_3_14) rfl rfl rfl hdX7_parentOf ⟨Nat.le_of_ble_eq_true rfl, Nat.le_of_ble_eq_true rfl⟩) 10 7 (aX_10 K o5.2) rfl rfl hl.1 rfl (Nat.le_of_ble_eq_true rfl) dX7_treeHolds_111 ⟨Nat.le_of_ble_eq_true rfl, Nat.le_of_ble_eq_true rfl⟩ rfl rfl (fun H locs hW => ?_)
      refine lv_iconst (v := (2 : Int32)) hx hb dX7_treeHolds_114 (by decide) ?_
      refine lv_icmp_ne (tgt := 122) hx hb dX7_treeHolds_115 (by decide) (fun c12 => ?_) (fun c12 => ?_)
      · replace hf := (if_neg c12).symm.trans hf
        refine lv_iconst (v := (0 : Int32)) hx hb dX7_treeHolds_122 (by decide) ?_
        exact gw_retz F hW hf (Or.inl rfl) dX7_treeHolds_123
      · replace hf := (if_pos c12).symm.trans hf
        refine lv_iconst (v := (1 : Int32)) hx hb dX7_treeHolds_118 (by decide) ?_
        refine lv_goto (tgt := 123) hx hb dX7_treeHolds_119 (by decide) ?_
        exact gw_retz F hW hf (Or.inr rfl) dX7_treeHolds_123
  · replace hf := (if_neg c4).symm.trans hf
    refine lv_aload_n hx hb dX7_treeHolds_14 rfl (lv_at hl 0 rfl) ?_
    refine lv_iload_n hx hb dX7_treeHolds_15 rfl (lv_at hl 1 rfl) ?_
    obtain ⟨o13, h14, hf⟩ := gw_bind hf
    refine gw_Vi (As := [.int x1]) (mc' := 0) (ms' := 0) F hW (mXX7_holderOf_10 h14) (cwV 1 hts (gT_V q_3_3 q_3_5 qp_15 q_1_9 q_3_6) rfl rfl rfl hdX7_holderOf ⟨Nat.le_of_ble_eq_true rfl, Nat.le_of_ble_eq_true rfl⟩) 10 7 (aX_10 K o1.2) rfl rfl hl.1 rfl (Nat.le_of_ble_eq_true rfl) dX7_treeHolds_16 ⟨Nat.le_of_ble_eq_true rfl, Nat.le_of_ble_eq_true rfl⟩ rfl rfl (fun H locs hW => ?_)
    refine lv_if_eq (tgt := 26) hx hb dX7_treeHolds_19 (by decide) (fun c16 => ?_) (fun c16 => ?_)
    · replace hf := (if_pos c16).symm.trans hf
      refine lv_iconst (v := (0 : Int32)) hx hb dX7_treeHolds_26 (by decide) ?_
      exact wXX7_treeHolds_10_27 F hk3 x1 (0 : Int32) _ _ hf _ _ _ (lv_sub hl [0, 1] rfl) hW
    · replace hf := (if_neg c16).symm.trans hf
      refine lv_iconst (v := (1 : Int32)) hx hb dX7_treeHolds_22 (by decide) ?_
      refine lv_goto (tgt := 27) hx hb dX7_treeHolds_23 (by decide) ?_
      exact wXX7_treeHolds_10_27 F hk3 x1 (1 : Int32) _ _ hf _ _ _ (lv_sub hl [0, 1] rfl) hW
set_option maxHeartbeats 4000000 in
set_option maxRecDepth 100000 in
theorem wXX7_treeHolds_10_0 {p : Program} {l : Launch} {e : Env} {s : State} {m : MethodId} {args : Array Value} {below : List Frame} {meth : Method} {c : Code} {A : Nat → Prop} {K : KX} (F : fx_ p s m args meth c cX7_treeHolds 3 (some .boolean) RX7 wsX7_treeHolds) (σ : XS) (o : (Int32 × XS)) (hf : fXX7_treeHolds_10_0 (kn K) σ = some o) (H : Heap) (locs : List Loc) (ls : Array Slot) (hl : lv_has ls 3 [(0, .ref (ka K 10))]) (hW : gw_ (kD K) vwCl (tyX K) (wX K) A s σ H locs) : W p l e rXX7_treeHolds_10 s m args below meth c H locs 0 0 (MQ below (va_Qi (fun r u => (r = o.1 ∧ u = o.2) ∧ (o.1 = 0 ∨ o.1 = 1)) (gw_B (kD K) vwCl (tyX K) (wX K) A) A) args s rXX7_treeHolds_10.cells rXX7_treeHolds_10.slots A) (F0 m 0 ls []) := by
  have hx := F.1
  have hb := F.2.1
  have hml := F.2.2.2.1
  have hown := F.2.2.2.2.1
  have hts := F.2.2.2.2.2.1
  have hG : ∀ x ∈ gT, x.before args s = true := fun x h => hts x (List.mem_cons_of_mem _ h)
  unfold fXX7_treeHolds_10_0 at hf
  refine lv_bipush (v := (12 : Int32)) hx hb dX7_treeHolds_0 (by decide) ?_
  refine lv_istore_n (lv' := [(1, .int (12 : Int32)), (0, .ref (ka K 10))]) hx hb dX7_treeHolds_2 rfl hl (by decide) rfl (fun ls hl => ?_)
  exact lfix_ind (P := PXX7_treeHolds_10_3 p l e s m args below meth c A K) (fun k3 hk3 t o hf => wXX7_treeHolds_10_3 F hk3 t.1 t.2 o hf) FU _ _ hf _ _ _ (lv_sub hl [1, 0] rfl) hW
set_option maxHeartbeats 4000000 in
set_option maxRecDepth 100000 in
theorem mXX7_treeHolds_10 {l : Launch} {K : KX} {σ : XS} {o : (Int32 × XS)} (hf : fXX7_treeHolds_10 (kn K) σ = some o) : gw_Mz l (kD K) vwCl (tyX K) (wX K) yX7_treeHolds wsX7_treeHolds rXX7_treeHolds_10 [.ref (ka K 10)] σ o := by
  intro sz
  refine gw_body (cc := cX7_treeHolds) (maxL := 3) (yret := some .boolean) (by decide +kernel) rfl ?_ (Nat.le_of_ble_eq_true rfl)
  intro p e s m below meth c F hsz hW ls hl
  exact wXX7_treeHolds_10_0 F σ o hf s.heap [] ls hl hW
abbrev rXX3_tailHolds_4 : Room := { frames := 3, cells := 0, slots := 0, locals := 63 }
def PXX3_tailHolds_4_25 (p : Program) (l : Launch) (e : Env) (s : State) (m : MethodId) (args : Array Value) (below : List Frame) (meth : Method) (c : Code) (A : Nat → Prop) (K : KX) (t : (Int32 × Int32 × Int32 × XS)) (o : (Int32 × XS)) : Prop := ∀ (H : Heap) (locs : List Loc) (ls : Array Slot), lv_has ls 6 [(0, .ref (ka K 4)), (2, .int t.1), (3, .int t.2.1), (4, .int t.2.2.1)] → gw_ (kD K) vwCl (tyX K) (wX K) A s t.2.2.2 H locs → W p l e rXX3_tailHolds_4 s m args below meth c H locs 0 0 (MQ below (va_Qi (fun r u => (r = o.1 ∧ u = o.2) ∧ (o.1 = 0 ∨ o.1 = 1)) (gw_B (kD K) vwCl (tyX K) (wX K) A) A) args s rXX3_tailHolds_4.cells rXX3_tailHolds_4.slots A) (F0 m 25 ls [])
set_option maxHeartbeats 4000000 in
set_option maxRecDepth 100000 in
theorem wXX3_tailHolds_4_60 {p : Program} {l : Launch} {e : Env} {s : State} {m : MethodId} {args : Array Value} {below : List Frame} {meth : Method} {c : Code} {A : Nat → Prop} {K : KX} (F : fx_ p s m args meth c cX3_tailHolds 6 (some .boolean) RX3 wsX3_tailHolds) {k25 : (Int32 × Int32 × Int32 × XS) → Option (Int32 × XS)} (hk25 : ∀ t o, k25 t = some o → PXX3_tailHolds_4_25 p l e s m args below meth c A K t o) (x2 : Int32) (x3 : Int32) (x4 : Int32) (y0 : Int32) (σ : XS) (o : (Int32 × XS)) (hf : fXX3_tailHolds_4_60 (kn K) k25 x2 x3 x4 y0 σ = some o) (H : Heap) (locs : List Loc) (ls : Array Slot) (hl : lv_has ls 6 [(0, .ref (ka K 4)), (2, .int x2), (3, .int x3), (4, .int x4)]) (hW : gw_ (kD K) vwCl (tyX K) (wX K) A s σ H locs) : W p l e rXX3_tailHolds_4 s m args below meth c H locs 0 0 (MQ below (va_Qi (fun r u => (r = o.1 ∧ u = o.2) ∧ (o.1 = 0 ∨ o.1 = 1)) (gw_B (kD K) vwCl (tyX K) (wX K) A) A) args s rXX3_tailHolds_4.cells rXX3_tailHolds_4.slots A) (F0 m 60 ls [.int y0]) := by
  have hx := F.1
  have hb := F.2.1
  have hml := F.2.2.2.1
  have hown := F.2.2.2.2.1
  have hts := F.2.2.2.2.2.1
  have hG : ∀ x ∈ gT, x.before args s = true := fun x h => hts x (List.mem_cons_of_mem _ h)
  unfold fXX3_tailHolds_4_60 at hf
  refine lv_istore (lv' := [(5, .int y0), (0, .ref (ka K 4)), (2, .int x2), (3, .int x3), (4, .int x4)]) hx hb dX3_tailHolds_60 hl (by decide) rfl (fun ls hl => ?_)
  refine lv_aload_n hx hb dX3_tailHolds_62 rfl (lv_at hl 1 rfl) ?_
  refine gw_get (v := .ref (ka K 1)) F inc_X3 hW 4 3 0 (aX_4 K σ) rfl (by decide) (hG _ q_1_83) (fun _ h9 => h9) rfl dX3_tailHolds_63 ?_
  refine lv_iload_n hx hb dX3_tailHolds_66 rfl (lv_at hl 3 rfl) ?_
  refine lv_iload hx hb dX3_tailHolds_67 (lv_at hl 4 rfl) ?_
  refine lv_iadd hx hb dX3_tailHolds_69 ?_
  obtain ⟨o9, h10, hf⟩ := gw_bind hf
  refine gw_Vi (As := [.int (x3 + x4)]) (mc' := 0) (ms' := 0) F hW (mXX1_get_1 h10) (cwV 1 hts (gT_V q_2_55 q_2_56 q_2_57 q_1_3 q_2_58) rfl rfl rfl hdX1_get ⟨Nat.le_of_ble_eq_true rfl, Nat.le_of_ble_eq_true rfl⟩) 1 1 (aX_1 K σ) rfl rfl hl.1 rfl (Nat.le_of_ble_eq_true rfl) dX3_tailHolds_70 ⟨Nat.le_of_ble_eq_true rfl, Nat.le_of_ble_eq_true rfl⟩ rfl rfl (fun H locs hW => ?_)
  refine lv_iload hx hb dX3_tailHolds_73 (lv_at hl 0 rfl) ?_
  refine lv_iand hx hb dX3_tailHolds_75 ?_
  refine lv_iload hx hb dX3_tailHolds_76 (lv_at hl 0 rfl) ?_
  refine lv_icmp_eq (tgt := 83) hx hb dX3_tailHolds_78 (by decide) (fun c12 => ?_) (fun c12 => ?_)
  · replace hf := (if_pos c12).symm.trans hf
    refine lv_iinc (v := (x4 + (1 : Int32))) (lv' := [(4, .int (x4 + (1 : Int32))), (5, .int y0), (0, .ref (ka K 4)), (2, .int x2), (3, .int x3)]) hx hb dX3_tailHolds_83 hl (k := 4) rfl rfl (by decide) rfl (fun ls hl => ?_)
    refine lv_goto (tgt := 25) hx hb dX3_tailHolds_86 (by decide) ?_
    exact hk25 _ _ hf _ _ _ (lv_sub hl [2, 3, 4, 0] rfl) hW
  · replace hf := (if_neg c12).symm.trans hf
    refine lv_iconst (v := (0 : Int32)) hx hb dX3_tailHolds_81 (by decide) ?_
    exact gw_retz F hW hf (Or.inl rfl) dX3_tailHolds_82
set_option maxHeartbeats 4000000 in
set_option maxRecDepth 100000 in
theorem wXX3_tailHolds_4_25 {p : Program} {l : Launch} {e : Env} {s : State} {m : MethodId} {args : Array Value} {below : List Frame} {meth : Method} {c : Code} {A : Nat → Prop} {K : KX} (F : fx_ p s m args meth c cX3_tailHolds 6 (some .boolean) RX3 wsX3_tailHolds) {k25 : (Int32 × Int32 × Int32 × XS) → Option (Int32 × XS)} (hk25 : ∀ t o, k25 t = some o → PXX3_tailHolds_4_25 p l e s m args below meth c A K t o) (x2 : Int32) (x3 : Int32) (x4 : Int32) (σ : XS) (o : (Int32 × XS)) (hf : fXX3_tailHolds_4_25 (kn K) k25 x2 x3 x4 σ = some o) (H : Heap) (locs : List Loc) (ls : Array Slot) (hl : lv_has ls 6 [(0, .ref (ka K 4)), (2, .int x2), (3, .int x3), (4, .int x4)]) (hW : gw_ (kD K) vwCl (tyX K) (wX K) A s σ H locs) : W p l e rXX3_tailHolds_4 s m args below meth c H locs 0 0 (MQ below (va_Qi (fun r u => (r = o.1 ∧ u = o.2) ∧ (o.1 = 0 ∨ o.1 = 1)) (gw_B (kD K) vwCl (tyX K) (wX K) A) A) args s rXX3_tailHolds_4.cells rXX3_tailHolds_4.slots A) (F0 m 25 ls []) := by
  have hx := F.1
  have hb := F.2.1
  have hml := F.2.2.2.1
  have hown := F.2.2.2.2.1
  have hts := F.2.2.2.2.2.1
  have hG : ∀ x ∈ gT, x.before args s = true := fun x h => hts x (List.mem_cons_of_mem _ h)
  unfold fXX3_tailHolds_4_25 at hf
  refine lv_iload hx hb dX3_tailHolds_25 (lv_at hl 3 rfl) ?_
  refine lv_sipush (v := (1024 : Int32)) hx hb dX3_tailHolds_27 (by decide) ?_
  refine lv_icmp_ge (tgt := 89) hx hb dX3_tailHolds_30 (by decide) (fun c7 => ?_) (fun c7 => ?_)
  · replace hf := (if_pos c7).symm.trans hf
    refine lv_iconst (v := (1 : Int32)) hx hb dX3_tailHolds_89 (by decide) ?_
    exact gw_retz F hW hf (Or.inr rfl) dX3_tailHolds_90
  · replace hf := (if_neg c7).symm.trans hf
    refine lv_iload hx hb dX3_tailHolds_33 (lv_at hl 3 rfl) ?_
    refine lv_iload_n hx hb dX3_tailHolds_35 rfl (lv_at hl 1 rfl) ?_
    refine lv_bipush (v := (8 : Int32)) hx hb dX3_tailHolds_36 (by decide) ?_
    refine lv_idiv hx hb dX3_tailHolds_38 (by decide) ?_
    refine lv_icmp_ne (tgt := 57) hx hb dX3_tailHolds_39 (by decide) (fun c8 => ?_) (fun c8 => ?_)
    · replace hf := (if_neg c8).symm.trans hf
      refine lv_sipush (v := (255 : Int32)) hx hb dX3_tailHolds_57 (by decide) ?_
      exact wXX3_tailHolds_4_60 F hk25 x2 x3 x4 (255 : Int32) _ _ hf _ _ _ (lv_sub hl [0, 1, 2, 3] rfl) hW
    · replace hf := (if_pos c8).symm.trans hf
      refine lv_sipush (v := (255 : Int32)) hx hb dX3_tailHolds_42 (by decide) ?_
      refine lv_iload_n hx hb dX3_tailHolds_45 rfl (lv_at hl 1 rfl) ?_
      refine lv_bipush (v := (8 : Int32)) hx hb dX3_tailHolds_46 (by decide) ?_
      refine lv_irem hx hb dX3_tailHolds_48 (by decide) ?_
      refine lv_ishl hx hb dX3_tailHolds_49 ?_
      refine lv_sipush (v := (255 : Int32)) hx hb dX3_tailHolds_50 (by decide) ?_
      refine lv_iand hx hb dX3_tailHolds_53 ?_
      refine lv_goto (tgt := 60) hx hb dX3_tailHolds_54 (by decide) ?_
      exact wXX3_tailHolds_4_60 F hk25 x2 x3 x4 (((255 : Int32) <<< ((x2 - x2 / (8 : Int32) * (8 : Int32)) &&& 31)) &&& (255 : Int32)) _ _ hf _ _ _ (lv_sub hl [0, 1, 2, 3] rfl) hW
set_option maxHeartbeats 4000000 in
set_option maxRecDepth 100000 in
theorem wXX3_tailHolds_4_0 {p : Program} {l : Launch} {e : Env} {s : State} {m : MethodId} {args : Array Value} {below : List Frame} {meth : Method} {c : Code} {A : Nat → Prop} {K : KX} (F : fx_ p s m args meth c cX3_tailHolds 6 (some .boolean) RX3 wsX3_tailHolds) (x1 : Int32) (σ : XS) (o : (Int32 × XS)) (hf : fXX3_tailHolds_4_0 (kn K) x1 σ = some o) (H : Heap) (locs : List Loc) (ls : Array Slot) (hl : lv_has ls 6 [(0, .ref (ka K 4)), (1, .int x1)]) (hW : gw_ (kD K) vwCl (tyX K) (wX K) A s σ H locs) : W p l e rXX3_tailHolds_4 s m args below meth c H locs 0 0 (MQ below (va_Qi (fun r u => (r = o.1 ∧ u = o.2) ∧ (o.1 = 0 ∨ o.1 = 1)) (gw_B (kD K) vwCl (tyX K) (wX K) A) A) args s rXX3_tailHolds_4.cells rXX3_tailHolds_4.slots A) (F0 m 0 ls []) := by
  have hx := F.1
  have hb := F.2.1
  have hml := F.2.2.2.1
  have hown := F.2.2.2.2.1
  have hts := F.2.2.2.2.2.1
  have hG : ∀ x ∈ gT, x.before args s = true := fun x h => hts x (List.mem_cons_of_mem _ h)
  unfold fXX3_tailHolds_4_0 at hf
  refine lv_aload_n hx hb dX3_tailHolds_0 rfl (lv_at hl 0 rfl) ?_
  refine lv_iload_n hx hb dX3_tailHolds_1 rfl (lv_at hl 1 rfl) ?_
  obtain ⟨o1, h2, hf⟩ := gw_bind hf
  refine gw_Vi (As := [.int x1]) (mc' := 0) (ms' := 0) F hW (mXX3_realIn_4 h2) (cwV 1 hts (gT_V q_3_23 q_3_25 qp_19 q_1_5 q_3_26) rfl rfl rfl hdX3_realIn ⟨Nat.le_of_ble_eq_true rfl, Nat.le_of_ble_eq_true rfl⟩) 4 3 (aX_4 K σ) rfl rfl hl.1 rfl (Nat.le_of_ble_eq_true rfl) dX3_tailHolds_2 ⟨Nat.le_of_ble_eq_true rfl, Nat.le_of_ble_eq_true rfl⟩ rfl rfl (fun H locs hW => ?_)
  refine lv_istore_n (lv' := [(2, .int o1.1), (0, .ref (ka K 4)), (1, .int x1)]) hx hb dX3_tailHolds_5 rfl hl (by decide) rfl (fun ls hl => ?_)
  refine lv_aload_n hx hb dX3_tailHolds_6 rfl (lv_at hl 1 rfl) ?_
  refine gw_get (v := .ref (ka K 3)) F inc_X3 hW 4 3 1 (aX_4 K o1.2) rfl (by decide) (hG _ q_1_84) (fun _ h9 => h9) rfl dX3_tailHolds_7 ?_
  refine lv_iload_n hx hb dX3_tailHolds_10 rfl (lv_at hl 2 rfl) ?_
  refine lv_aload_n hx hb dX3_tailHolds_11 rfl (lv_at hl 1 rfl) ?_
  refine gw_get (v := .int (2 : Int32)) F inc_X3 hW 4 3 2 (aX_4 K o1.2) rfl (by decide) (hG _ q_1_85) (fun _ h9 => h9) rfl dX3_tailHolds_12 ?_
  obtain ⟨o4, h5, hf⟩ := gw_bind hf
  refine gw_Vi (As := [.int x1, .int (2 : Int32)]) (mc' := 0) (ms' := 0) F hW (mXX2_partAt_3 h5) (cwV 2 hts (gT_V q_2_51 q_2_52 q_2_53 q_1_4 q_2_54) rfl rfl rfl hdX2_partAt ⟨Nat.le_of_ble_eq_true rfl, Nat.le_of_ble_eq_true rfl⟩) 3 2 (aX_3 K o1.2) rfl rfl hl.1 rfl (Nat.le_of_ble_eq_true rfl) dX3_tailHolds_15 ⟨Nat.le_of_ble_eq_true rfl, Nat.le_of_ble_eq_true rfl⟩ rfl rfl (fun H locs hW => ?_)
  refine lv_istore_n (lv' := [(3, .int o4.1), (2, .int o1.1), (0, .ref (ka K 4)), (1, .int x1)]) hx hb dX3_tailHolds_18 rfl hl (by decide) rfl (fun ls hl => ?_)
  refine lv_iload_n hx hb dX3_tailHolds_19 rfl (lv_at hl 1 rfl) ?_
  refine lv_bipush (v := (8 : Int32)) hx hb dX3_tailHolds_20 (by decide) ?_
  refine lv_idiv hx hb dX3_tailHolds_22 (by decide) ?_
  refine lv_istore (lv' := [(4, .int (o1.1 / (8 : Int32))), (3, .int o4.1), (2, .int o1.1), (0, .ref (ka K 4)), (1, .int x1)]) hx hb dX3_tailHolds_23 hl (by decide) rfl (fun ls hl => ?_)
  exact lfix_ind (P := PXX3_tailHolds_4_25 p l e s m args below meth c A K) (fun k25 hk25 t o hf => wXX3_tailHolds_4_25 F hk25 t.1 t.2.1 t.2.2.1 t.2.2.2 o hf) FU _ _ hf _ _ _ (lv_sub hl [3, 2, 1, 0] rfl) hW
set_option maxHeartbeats 4000000 in
set_option maxRecDepth 100000 in
theorem mXX3_tailHolds_4 {l : Launch} {K : KX} {σ : XS} {x1 : Int32} {o : (Int32 × XS)} (hf : fXX3_tailHolds_4 (kn K) x1 σ = some o) : gw_Mz l (kD K) vwCl (tyX K) (wX K) yX3_tailHolds wsX3_tailHolds rXX3_tailHolds_4 [.ref (ka K 4), .int x1] σ o := by
  intro sz
  refine gw_body (cc := cX3_tailHolds) (maxL := 6) (yret := some .boolean) (by decide +kernel) rfl ?_ (Nat.le_of_ble_eq_true rfl)
  intro p e s m below meth c F hsz hW ls hl
  exact wXX3_tailHolds_4_0 F x1 σ o hf s.heap [] ls hl hW
abbrev rXX3_tailHolds_5 : Room := { frames := 2, cells := 0, slots := 0, locals := 41 }
def PXX3_tailHolds_5_25 (p : Program) (l : Launch) (e : Env) (s : State) (m : MethodId) (args : Array Value) (below : List Frame) (meth : Method) (c : Code) (A : Nat → Prop) (K : KX) (t : (Int32 × Int32 × Int32 × XS)) (o : (Int32 × XS)) : Prop := ∀ (H : Heap) (locs : List Loc) (ls : Array Slot), lv_has ls 6 [(0, .ref (ka K 5)), (2, .int t.1), (3, .int t.2.1), (4, .int t.2.2.1)] → gw_ (kD K) vwCl (tyX K) (wX K) A s t.2.2.2 H locs → W p l e rXX3_tailHolds_5 s m args below meth c H locs 0 0 (MQ below (va_Qi (fun r u => (r = o.1 ∧ u = o.2) ∧ (o.1 = 0 ∨ o.1 = 1)) (gw_B (kD K) vwCl (tyX K) (wX K) A) A) args s rXX3_tailHolds_5.cells rXX3_tailHolds_5.slots A) (F0 m 25 ls [])
set_option maxHeartbeats 4000000 in
set_option maxRecDepth 100000 in
theorem wXX3_tailHolds_5_60 {p : Program} {l : Launch} {e : Env} {s : State} {m : MethodId} {args : Array Value} {below : List Frame} {meth : Method} {c : Code} {A : Nat → Prop} {K : KX} (F : fx_ p s m args meth c cX3_tailHolds 6 (some .boolean) RX3 wsX3_tailHolds) {k25 : (Int32 × Int32 × Int32 × XS) → Option (Int32 × XS)} (hk25 : ∀ t o, k25 t = some o → PXX3_tailHolds_5_25 p l e s m args below meth c A K t o) (x2 : Int32) (x3 : Int32) (x4 : Int32) (y0 : Int32) (σ : XS) (o : (Int32 × XS)) (hf : fXX3_tailHolds_5_60 (kn K) k25 x2 x3 x4 y0 σ = some o) (H : Heap) (locs : List Loc) (ls : Array Slot) (hl : lv_has ls 6 [(0, .ref (ka K 5)), (2, .int x2), (3, .int x3), (4, .int x4)]) (hW : gw_ (kD K) vwCl (tyX K) (wX K) A s σ H locs) : W p l e rXX3_tailHolds_5 s m args below meth c H locs 0 0 (MQ below (va_Qi (fun r u => (r = o.1 ∧ u = o.2) ∧ (o.1 = 0 ∨ o.1 = 1)) (gw_B (kD K) vwCl (tyX K) (wX K) A) A) args s rXX3_tailHolds_5.cells rXX3_tailHolds_5.slots A) (F0 m 60 ls [.int y0]) := by
  have hx := F.1
  have hb := F.2.1
  have hml := F.2.2.2.1
  have hown := F.2.2.2.2.1
  have hts := F.2.2.2.2.2.1
  have hG : ∀ x ∈ gT, x.before args s = true := fun x h => hts x (List.mem_cons_of_mem _ h)
  unfold fXX3_tailHolds_5_60 at hf
  refine lv_istore (lv' := [(5, .int y0), (0, .ref (ka K 5)), (2, .int x2), (3, .int x3), (4, .int x4)]) hx hb dX3_tailHolds_60 hl (by decide) rfl (fun ls hl => ?_)
  refine lv_aload_n hx hb dX3_tailHolds_62 rfl (lv_at hl 1 rfl) ?_
  refine gw_get (v := .ref (ka K 1)) F inc_X3 hW 5 3 0 (aX_5 K σ) rfl (by decide) (hG _ q_1_83) (fun _ h9 => h9) rfl dX3_tailHolds_63 ?_
  refine lv_iload_n hx hb dX3_tailHolds_66 rfl (lv_at hl 3 rfl) ?_
  refine lv_iload hx hb dX3_tailHolds_67 (lv_at hl 4 rfl) ?_
  refine lv_iadd hx hb dX3_tailHolds_69 ?_
  obtain ⟨o9, h10, hf⟩ := gw_bind hf
  refine gw_Vi (As := [.int (x3 + x4)]) (mc' := 0) (ms' := 0) F hW (mXX1_get_1 h10) (cwV 1 hts (gT_V q_2_55 q_2_56 q_2_57 q_1_3 q_2_58) rfl rfl rfl hdX1_get ⟨Nat.le_of_ble_eq_true rfl, Nat.le_of_ble_eq_true rfl⟩) 1 1 (aX_1 K σ) rfl rfl hl.1 rfl (Nat.le_of_ble_eq_true rfl) dX3_tailHolds_70 ⟨Nat.le_of_ble_eq_true rfl, Nat.le_of_ble_eq_true rfl⟩ rfl rfl (fun H locs hW => ?_)
  refine lv_iload hx hb dX3_tailHolds_73 (lv_at hl 0 rfl) ?_
  refine lv_iand hx hb dX3_tailHolds_75 ?_
  refine lv_iload hx hb dX3_tailHolds_76 (lv_at hl 0 rfl) ?_
  refine lv_icmp_eq (tgt := 83) hx hb dX3_tailHolds_78 (by decide) (fun c12 => ?_) (fun c12 => ?_)
  · replace hf := (if_pos c12).symm.trans hf
    refine lv_iinc (v := (x4 + (1 : Int32))) (lv' := [(4, .int (x4 + (1 : Int32))), (5, .int y0), (0, .ref (ka K 5)), (2, .int x2), (3, .int x3)]) hx hb dX3_tailHolds_83 hl (k := 4) rfl rfl (by decide) rfl (fun ls hl => ?_)
    refine lv_goto (tgt := 25) hx hb dX3_tailHolds_86 (by decide) ?_
    exact hk25 _ _ hf _ _ _ (lv_sub hl [2, 3, 4, 0] rfl) hW
  · replace hf := (if_neg c12).symm.trans hf
    refine lv_iconst (v := (0 : Int32)) hx hb dX3_tailHolds_81 (by decide) ?_
    exact gw_retz F hW hf (Or.inl rfl) dX3_tailHolds_82
set_option maxHeartbeats 4000000 in
set_option maxRecDepth 100000 in
theorem wXX3_tailHolds_5_25 {p : Program} {l : Launch} {e : Env} {s : State} {m : MethodId} {args : Array Value} {below : List Frame} {meth : Method} {c : Code} {A : Nat → Prop} {K : KX} (F : fx_ p s m args meth c cX3_tailHolds 6 (some .boolean) RX3 wsX3_tailHolds) {k25 : (Int32 × Int32 × Int32 × XS) → Option (Int32 × XS)} (hk25 : ∀ t o, k25 t = some o → PXX3_tailHolds_5_25 p l e s m args below meth c A K t o) (x2 : Int32) (x3 : Int32) (x4 : Int32) (σ : XS) (o : (Int32 × XS)) (hf : fXX3_tailHolds_5_25 (kn K) k25 x2 x3 x4 σ = some o) (H : Heap) (locs : List Loc) (ls : Array Slot) (hl : lv_has ls 6 [(0, .ref (ka K 5)), (2, .int x2), (3, .int x3), (4, .int x4)]) (hW : gw_ (kD K) vwCl (tyX K) (wX K) A s σ H locs) : W p l e rXX3_tailHolds_5 s m args below meth c H locs 0 0 (MQ below (va_Qi (fun r u => (r = o.1 ∧ u = o.2) ∧ (o.1 = 0 ∨ o.1 = 1)) (gw_B (kD K) vwCl (tyX K) (wX K) A) A) args s rXX3_tailHolds_5.cells rXX3_tailHolds_5.slots A) (F0 m 25 ls []) := by
  have hx := F.1
  have hb := F.2.1
  have hml := F.2.2.2.1
  have hown := F.2.2.2.2.1
  have hts := F.2.2.2.2.2.1
  have hG : ∀ x ∈ gT, x.before args s = true := fun x h => hts x (List.mem_cons_of_mem _ h)
  unfold fXX3_tailHolds_5_25 at hf
  refine lv_iload hx hb dX3_tailHolds_25 (lv_at hl 3 rfl) ?_
  refine lv_sipush (v := (1024 : Int32)) hx hb dX3_tailHolds_27 (by decide) ?_
  refine lv_icmp_ge (tgt := 89) hx hb dX3_tailHolds_30 (by decide) (fun c7 => ?_) (fun c7 => ?_)
  · replace hf := (if_pos c7).symm.trans hf
    refine lv_iconst (v := (1 : Int32)) hx hb dX3_tailHolds_89 (by decide) ?_
    exact gw_retz F hW hf (Or.inr rfl) dX3_tailHolds_90
  · replace hf := (if_neg c7).symm.trans hf
    refine lv_iload hx hb dX3_tailHolds_33 (lv_at hl 3 rfl) ?_
    refine lv_iload_n hx hb dX3_tailHolds_35 rfl (lv_at hl 1 rfl) ?_
    refine lv_bipush (v := (8 : Int32)) hx hb dX3_tailHolds_36 (by decide) ?_
    refine lv_idiv hx hb dX3_tailHolds_38 (by decide) ?_
    refine lv_icmp_ne (tgt := 57) hx hb dX3_tailHolds_39 (by decide) (fun c8 => ?_) (fun c8 => ?_)
    · replace hf := (if_neg c8).symm.trans hf
      refine lv_sipush (v := (255 : Int32)) hx hb dX3_tailHolds_57 (by decide) ?_
      exact wXX3_tailHolds_5_60 F hk25 x2 x3 x4 (255 : Int32) _ _ hf _ _ _ (lv_sub hl [0, 1, 2, 3] rfl) hW
    · replace hf := (if_pos c8).symm.trans hf
      refine lv_sipush (v := (255 : Int32)) hx hb dX3_tailHolds_42 (by decide) ?_
      refine lv_iload_n hx hb dX3_tailHolds_45 rfl (lv_at hl 1 rfl) ?_
      refine lv_bipush (v := (8 : Int32)) hx hb dX3_tailHolds_46 (by decide) ?_
      refine lv_irem hx hb dX3_tailHolds_48 (by decide) ?_
      refine lv_ishl hx hb dX3_tailHolds_49 ?_
      refine lv_sipush (v := (255 : Int32)) hx hb dX3_tailHolds_50 (by decide) ?_
      refine lv_iand hx hb dX3_tailHolds_53 ?_
      refine lv_goto (tgt := 60) hx hb dX3_tailHolds_54 (by decide) ?_
      exact wXX3_tailHolds_5_60 F hk25 x2 x3 x4 (((255 : Int32) <<< ((x2 - x2 / (8 : Int32) * (8 : Int32)) &&& 31)) &&& (255 : Int32)) _ _ hf _ _ _ (lv_sub hl [0, 1, 2, 3] rfl) hW
set_option maxHeartbeats 4000000 in
set_option maxRecDepth 100000 in
theorem wXX3_tailHolds_5_0 {p : Program} {l : Launch} {e : Env} {s : State} {m : MethodId} {args : Array Value} {below : List Frame} {meth : Method} {c : Code} {A : Nat → Prop} {K : KX} (F : fx_ p s m args meth c cX3_tailHolds 6 (some .boolean) RX3 wsX3_tailHolds) (x1 : Int32) (σ : XS) (o : (Int32 × XS)) (hf : fXX3_tailHolds_5_0 (kn K) x1 σ = some o) (H : Heap) (locs : List Loc) (ls : Array Slot) (hl : lv_has ls 6 [(0, .ref (ka K 5)), (1, .int x1)]) (hW : gw_ (kD K) vwCl (tyX K) (wX K) A s σ H locs) : W p l e rXX3_tailHolds_5 s m args below meth c H locs 0 0 (MQ below (va_Qi (fun r u => (r = o.1 ∧ u = o.2) ∧ (o.1 = 0 ∨ o.1 = 1)) (gw_B (kD K) vwCl (tyX K) (wX K) A) A) args s rXX3_tailHolds_5.cells rXX3_tailHolds_5.slots A) (F0 m 0 ls []) := by
  have hx := F.1
  have hb := F.2.1
  have hml := F.2.2.2.1
  have hown := F.2.2.2.2.1
  have hts := F.2.2.2.2.2.1
  have hG : ∀ x ∈ gT, x.before args s = true := fun x h => hts x (List.mem_cons_of_mem _ h)
  unfold fXX3_tailHolds_5_0 at hf
  refine lv_aload_n hx hb dX3_tailHolds_0 rfl (lv_at hl 0 rfl) ?_
  refine lv_iload_n hx hb dX3_tailHolds_1 rfl (lv_at hl 1 rfl) ?_
  obtain ⟨o1, h2, hf⟩ := gw_bind hf
  refine gw_Vi (As := [.int x1]) (mc' := 0) (ms' := 0) F hW (mXX3_realIn_5 h2) (cwV 1 hts (gT_V q_3_23 q_3_25 qp_19 q_1_5 q_3_26) rfl rfl rfl hdX3_realIn ⟨Nat.le_of_ble_eq_true rfl, Nat.le_of_ble_eq_true rfl⟩) 5 3 (aX_5 K σ) rfl rfl hl.1 rfl (Nat.le_of_ble_eq_true rfl) dX3_tailHolds_2 ⟨Nat.le_of_ble_eq_true rfl, Nat.le_of_ble_eq_true rfl⟩ rfl rfl (fun H locs hW => ?_)
  refine lv_istore_n (lv' := [(2, .int o1.1), (0, .ref (ka K 5)), (1, .int x1)]) hx hb dX3_tailHolds_5 rfl hl (by decide) rfl (fun ls hl => ?_)
  refine lv_aload_n hx hb dX3_tailHolds_6 rfl (lv_at hl 1 rfl) ?_
  refine gw_get (v := .ref (ka K 3)) F inc_X3 hW 5 3 1 (aX_5 K o1.2) rfl (by decide) (hG _ q_1_84) (fun _ h9 => h9) rfl dX3_tailHolds_7 ?_
  refine lv_iload_n hx hb dX3_tailHolds_10 rfl (lv_at hl 2 rfl) ?_
  refine lv_aload_n hx hb dX3_tailHolds_11 rfl (lv_at hl 1 rfl) ?_
  refine gw_get (v := .int (3 : Int32)) F inc_X3 hW 5 3 2 (aX_5 K o1.2) rfl (by decide) (hG _ q_1_85) (fun _ h9 => h9) rfl dX3_tailHolds_12 ?_
  obtain ⟨o4, h5, hf⟩ := gw_bind hf
  refine gw_Vi (As := [.int x1, .int (3 : Int32)]) (mc' := 0) (ms' := 0) F hW (mXX2_partAt_3 h5) (cwV 2 hts (gT_V q_2_51 q_2_52 q_2_53 q_1_4 q_2_54) rfl rfl rfl hdX2_partAt ⟨Nat.le_of_ble_eq_true rfl, Nat.le_of_ble_eq_true rfl⟩) 3 2 (aX_3 K o1.2) rfl rfl hl.1 rfl (Nat.le_of_ble_eq_true rfl) dX3_tailHolds_15 ⟨Nat.le_of_ble_eq_true rfl, Nat.le_of_ble_eq_true rfl⟩ rfl rfl (fun H locs hW => ?_)
  refine lv_istore_n (lv' := [(3, .int o4.1), (2, .int o1.1), (0, .ref (ka K 5)), (1, .int x1)]) hx hb dX3_tailHolds_18 rfl hl (by decide) rfl (fun ls hl => ?_)
  refine lv_iload_n hx hb dX3_tailHolds_19 rfl (lv_at hl 1 rfl) ?_
  refine lv_bipush (v := (8 : Int32)) hx hb dX3_tailHolds_20 (by decide) ?_
  refine lv_idiv hx hb dX3_tailHolds_22 (by decide) ?_
  refine lv_istore (lv' := [(4, .int (o1.1 / (8 : Int32))), (3, .int o4.1), (2, .int o1.1), (0, .ref (ka K 5)), (1, .int x1)]) hx hb dX3_tailHolds_23 hl (by decide) rfl (fun ls hl => ?_)
  exact lfix_ind (P := PXX3_tailHolds_5_25 p l e s m args below meth c A K) (fun k25 hk25 t o hf => wXX3_tailHolds_5_25 F hk25 t.1 t.2.1 t.2.2.1 t.2.2.2 o hf) FU _ _ hf _ _ _ (lv_sub hl [3, 2, 1, 0] rfl) hW
set_option maxHeartbeats 4000000 in
set_option maxRecDepth 100000 in
theorem mXX3_tailHolds_5 {l : Launch} {K : KX} {σ : XS} {x1 : Int32} {o : (Int32 × XS)} (hf : fXX3_tailHolds_5 (kn K) x1 σ = some o) : gw_Mz l (kD K) vwCl (tyX K) (wX K) yX3_tailHolds wsX3_tailHolds rXX3_tailHolds_5 [.ref (ka K 5), .int x1] σ o := by
  intro sz
  refine gw_body (cc := cX3_tailHolds) (maxL := 6) (yret := some .boolean) (by decide +kernel) rfl ?_ (Nat.le_of_ble_eq_true rfl)
  intro p e s m below meth c F hsz hW ls hl
  exact wXX3_tailHolds_5_0 F x1 σ o hf s.heap [] ls hl hW
abbrev rXX7_mapsHold_10 : Room := { frames := 4, cells := 0, slots := 0, locals := 88 }
def PXX7_mapsHold_10_73 (p : Program) (l : Launch) (e : Env) (s : State) (m : MethodId) (args : Array Value) (below : List Frame) (meth : Method) (c : Code) (A : Nat → Prop) (K : KX) (t : (Int32 × XS)) (o : (Int32 × XS)) : Prop := ∀ (H : Heap) (locs : List Loc) (ls : Array Slot), lv_has ls 2 [(0, .ref (ka K 10)), (1, .int t.1)] → gw_ (kD K) vwCl (tyX K) (wX K) A s t.2 H locs → W p l e rXX7_mapsHold_10 s m args below meth c H locs 0 0 (MQ below (va_Qi (fun r u => (r = o.1 ∧ u = o.2) ∧ (o.1 = 0 ∨ o.1 = 1)) (gw_B (kD K) vwCl (tyX K) (wX K) A) A) args s rXX7_mapsHold_10.cells rXX7_mapsHold_10.slots A) (F0 m 73 ls [])
def PXX7_mapsHold_10_46 (p : Program) (l : Launch) (e : Env) (s : State) (m : MethodId) (args : Array Value) (below : List Frame) (meth : Method) (c : Code) (A : Nat → Prop) (K : KX) (t : (Int32 × XS)) (o : (Int32 × XS)) : Prop := ∀ (H : Heap) (locs : List Loc) (ls : Array Slot), lv_has ls 2 [(0, .ref (ka K 10)), (1, .int t.1)] → gw_ (kD K) vwCl (tyX K) (wX K) A s t.2 H locs → W p l e rXX7_mapsHold_10 s m args below meth c H locs 0 0 (MQ below (va_Qi (fun r u => (r = o.1 ∧ u = o.2) ∧ (o.1 = 0 ∨ o.1 = 1)) (gw_B (kD K) vwCl (tyX K) (wX K) A) A) args s rXX7_mapsHold_10.cells rXX7_mapsHold_10.slots A) (F0 m 46 ls [])
def PXX7_mapsHold_10_2 (p : Program) (l : Launch) (e : Env) (s : State) (m : MethodId) (args : Array Value) (below : List Frame) (meth : Method) (c : Code) (A : Nat → Prop) (K : KX) (t : (Int32 × XS)) (o : (Int32 × XS)) : Prop := ∀ (H : Heap) (locs : List Loc) (ls : Array Slot), lv_has ls 2 [(0, .ref (ka K 10)), (1, .int t.1)] → gw_ (kD K) vwCl (tyX K) (wX K) A s t.2 H locs → W p l e rXX7_mapsHold_10 s m args below meth c H locs 0 0 (MQ below (va_Qi (fun r u => (r = o.1 ∧ u = o.2) ∧ (o.1 = 0 ∨ o.1 = 1)) (gw_B (kD K) vwCl (tyX K) (wX K) A) A) args s rXX7_mapsHold_10.cells rXX7_mapsHold_10.slots A) (F0 m 2 ls [])
set_option maxHeartbeats 4000000 in
set_option maxRecDepth 100000 in
theorem wXX7_mapsHold_10_73 {p : Program} {l : Launch} {e : Env} {s : State} {m : MethodId} {args : Array Value} {below : List Frame} {meth : Method} {c : Code} {A : Nat → Prop} {K : KX} (F : fx_ p s m args meth c cX7_mapsHold 2 (some .boolean) RX7 wsX7_mapsHold) {k73 : (Int32 × XS) → Option (Int32 × XS)} (hk73 : ∀ t o, k73 t = some o → PXX7_mapsHold_10_73 p l e s m args below meth c A K t o) (x1 : Int32) (σ : XS) (o : (Int32 × XS)) (hf : fXX7_mapsHold_10_73 (kn K) k73 x1 σ = some o) (H : Heap) (locs : List Loc) (ls : Array Slot) (hl : lv_has ls 2 [(0, .ref (ka K 10)), (1, .int x1)]) (hW : gw_ (kD K) vwCl (tyX K) (wX K) A s σ H locs) : W p l e rXX7_mapsHold_10 s m args below meth c H locs 0 0 (MQ below (va_Qi (fun r u => (r = o.1 ∧ u = o.2) ∧ (o.1 = 0 ∨ o.1 = 1)) (gw_B (kD K) vwCl (tyX K) (wX K) A) A) args s rXX7_mapsHold_10.cells rXX7_mapsHold_10.slots A) (F0 m 73 ls []) := by
  have hx := F.1
  have hb := F.2.1
  have hml := F.2.2.2.1
  have hown := F.2.2.2.2.1
  have hts := F.2.2.2.2.2.1
  have hG : ∀ x ∈ gT, x.before args s = true := fun x h => hts x (List.mem_cons_of_mem _ h)
  unfold fXX7_mapsHold_10_73 at hf
  refine lv_iload_n hx hb dX7_mapsHold_73 rfl (lv_at hl 1 rfl) ?_
  refine lv_aload_n hx hb dX7_mapsHold_74 rfl (lv_at hl 0 rfl) ?_
  refine gw_get (v := .ref (ka K 3)) F inc_X7 hW 10 7 1 (aX_10 K σ) rfl (by decide) (hG _ q_1_171) (fun _ h9 => h9) rfl dX7_mapsHold_75 ?_
  obtain ⟨o3, h4, hf⟩ := gw_bind hf
  refine gw_Vi (As := []) (mc' := 0) (ms' := 0) F hW (mXX2_groups_3 h4) (cwV 0 hts (gT_V q_2_73 q_2_74 q_2_75 q_1_4 q_2_76) rfl rfl rfl hdX2_groups ⟨Nat.le_of_ble_eq_true rfl, Nat.le_of_ble_eq_true rfl⟩) 3 2 (aX_3 K σ) rfl rfl hl.1 rfl (Nat.le_of_ble_eq_true rfl) dX7_mapsHold_78 ⟨Nat.le_of_ble_eq_true rfl, Nat.le_of_ble_eq_true rfl⟩ rfl rfl (fun H locs hW => ?_)
  refine lv_icmp_ge (tgt := 114) hx hb dX7_mapsHold_81 (by decide) (fun c6 => ?_) (fun c6 => ?_)
  · replace hf := (if_pos c6).symm.trans hf
    refine lv_iconst (v := (1 : Int32)) hx hb dX7_mapsHold_114 (by decide) ?_
    exact gw_retz F hW hf (Or.inr rfl) dX7_mapsHold_115
  · replace hf := (if_neg c6).symm.trans hf
    refine lv_aload_n hx hb dX7_mapsHold_84 rfl (lv_at hl 0 rfl) ?_
    refine gw_get (v := .ref (ka K 4)) F inc_X7 hW 10 7 2 (aX_10 K o3.2) rfl (by decide) (hG _ q_1_172) (fun _ h9 => h9) rfl dX7_mapsHold_85 ?_
    refine lv_iload_n hx hb dX7_mapsHold_88 rfl (lv_at hl 1 rfl) ?_
    obtain ⟨o7, h8, hf⟩ := gw_bind hf
    refine gw_Vz (As := [.int x1]) (mc' := 0) (ms' := 0) F hW (mXX3_tailHolds_4 h8) (cwV 1 hts (gT_V q_3_19 q_3_20 q_3_21 q_1_5 q_3_22) rfl rfl rfl hdX3_tailHolds ⟨Nat.le_of_ble_eq_true rfl, Nat.le_of_ble_eq_true rfl⟩) 4 3 (aX_4 K o3.2) rfl rfl hl.1 rfl (Nat.le_of_ble_eq_true rfl) dX7_mapsHold_89 ⟨Nat.le_of_ble_eq_true rfl, Nat.le_of_ble_eq_true rfl⟩ rfl rfl (fun H locs z9 hW => ?_)
    refine lv_if_eq (tgt := 106) hx hb dX7_mapsHold_92 (by decide) (fun c10 => ?_) (fun c10 => ?_)
    · replace hf := (if_pos c10).symm.trans hf
      refine lv_iconst (v := (0 : Int32)) hx hb dX7_mapsHold_106 (by decide) ?_
      exact gw_retz F hW hf (Or.inl rfl) dX7_mapsHold_107
    · replace hf := (if_neg c10).symm.trans hf
      refine lv_aload_n hx hb dX7_mapsHold_95 rfl (lv_at hl 0 rfl) ?_
      refine gw_get (v := .ref (ka K 5)) F inc_X7 hW 10 7 3 (aX_10 K o7.2) rfl (by decide) (hG _ q_1_173) (fun _ h9 => h9) rfl dX7_mapsHold_96 ?_
      refine lv_iload_n hx hb dX7_mapsHold_99 rfl (lv_at hl 1 rfl) ?_
      obtain ⟨o11, h12, hf⟩ := gw_bind hf
      refine gw_Vz (As := [.int x1]) (mc' := 0) (ms' := 0) F hW (mXX3_tailHolds_5 h12) (cwV 1 hts (gT_V q_3_19 q_3_20 q_3_21 q_1_5 q_3_22) rfl rfl rfl hdX3_tailHolds ⟨Nat.le_of_ble_eq_true rfl, Nat.le_of_ble_eq_true rfl⟩) 5 3 (aX_5 K o7.2) rfl rfl hl.1 rfl (Nat.le_of_ble_eq_true rfl) dX7_mapsHold_100 ⟨Nat.le_of_ble_eq_true rfl, Nat.le_of_ble_eq_true rfl⟩ rfl rfl (fun H locs z13 hW => ?_)
      refine lv_if_ne (tgt := 108) hx hb dX7_mapsHold_103 (by decide) (fun c14 => ?_) (fun c14 => ?_)
      · replace hf := (if_neg c14).symm.trans hf
        refine lv_iinc (v := (x1 + (1 : Int32))) (lv' := [(1, .int (x1 + (1 : Int32))), (0, .ref (ka K 10))]) hx hb dX7_mapsHold_108 hl (k := 1) rfl rfl (by decide) rfl (fun ls hl => ?_)
        refine lv_goto (tgt := 73) hx hb dX7_mapsHold_111 (by decide) ?_
        exact hk73 _ _ hf _ _ _ (lv_sub hl [1, 0] rfl) hW
      · replace hf := (if_pos c14).symm.trans hf
        refine lv_iconst (v := (0 : Int32)) hx hb dX7_mapsHold_106 (by decide) ?_
        exact gw_retz F hW hf (Or.inl rfl) dX7_mapsHold_107
set_option maxHeartbeats 4000000 in
set_option maxRecDepth 100000 in
theorem wXX7_mapsHold_10_46 {p : Program} {l : Launch} {e : Env} {s : State} {m : MethodId} {args : Array Value} {below : List Frame} {meth : Method} {c : Code} {A : Nat → Prop} {K : KX} (F : fx_ p s m args meth c cX7_mapsHold 2 (some .boolean) RX7 wsX7_mapsHold) {k46 : (Int32 × XS) → Option (Int32 × XS)} (hk46 : ∀ t o, k46 t = some o → PXX7_mapsHold_10_46 p l e s m args below meth c A K t o) (x1 : Int32) (σ : XS) (o : (Int32 × XS)) (hf : fXX7_mapsHold_10_46 (kn K) k46 x1 σ = some o) (H : Heap) (locs : List Loc) (ls : Array Slot) (hl : lv_has ls 2 [(0, .ref (ka K 10)), (1, .int x1)]) (hW : gw_ (kD K) vwCl (tyX K) (wX K) A s σ H locs) : W p l e rXX7_mapsHold_10 s m args below meth c H locs 0 0 (MQ below (va_Qi (fun r u => (r = o.1 ∧ u = o.2) ∧ (o.1 = 0 ∨ o.1 = 1)) (gw_B (kD K) vwCl (tyX K) (wX K) A) A) args s rXX7_mapsHold_10.cells rXX7_mapsHold_10.slots A) (F0 m 46 ls []) := by
  have hx := F.1
  have hb := F.2.1
  have hml := F.2.2.2.1
  have hown := F.2.2.2.2.1
  have hts := F.2.2.2.2.2.1
  have hG : ∀ x ∈ gT, x.before args s = true := fun x h => hts x (List.mem_cons_of_mem _ h)
  unfold fXX7_mapsHold_10_46 at hf
  refine lv_iload_n hx hb dX7_mapsHold_46 rfl (lv_at hl 1 rfl) ?_
  refine lv_bipush (v := (11 : Int32)) hx hb dX7_mapsHold_47 (by decide) ?_
  refine lv_icmp_gt (tgt := 71) hx hb dX7_mapsHold_49 (by decide) (fun c2 => ?_) (fun c2 => ?_)
  · replace hf := (if_pos c2).symm.trans hf
    refine lv_iconst (v := (0 : Int32)) hx hb dX7_mapsHold_71 (by decide) ?_
    refine lv_istore_n (lv' := [(1, .int (0 : Int32)), (0, .ref (ka K 10))]) hx hb dX7_mapsHold_72 rfl hl (by decide) rfl (fun ls hl => ?_)
    exact lfix_ind (P := PXX7_mapsHold_10_73 p l e s m args below meth c A K) (fun k73 hk73 t o hf => wXX7_mapsHold_10_73 F hk73 t.1 t.2 o hf) FU _ _ hf _ _ _ (lv_sub hl [1, 0] rfl) hW
  · replace hf := (if_neg c2).symm.trans hf
    refine lv_aload_n hx hb dX7_mapsHold_52 rfl (lv_at hl 0 rfl) ?_
    refine gw_get (v := .ref (ka K 5)) F inc_X7 hW 10 7 3 (aX_10 K σ) rfl (by decide) (hG _ q_1_173) (fun _ h9 => h9) rfl dX7_mapsHold_53 ?_
    refine lv_iload_n hx hb dX7_mapsHold_56 rfl (lv_at hl 1 rfl) ?_
    obtain ⟨o15, h16, hf⟩ := gw_bind hf
    refine gw_Vz (As := [.int x1]) (mc' := 0) (ms' := 0) F hW (mXX3_isUsed_5 h16) (cwV 1 hts (gT_V q_2_104 q_2_48 q_2_49 q_1_5 q_2_50) rfl rfl rfl hdX3_isUsed ⟨Nat.le_of_ble_eq_true rfl, Nat.le_of_ble_eq_true rfl⟩) 5 3 (aX_5 K σ) rfl rfl hl.1 rfl (Nat.le_of_ble_eq_true rfl) dX7_mapsHold_57 ⟨Nat.le_of_ble_eq_true rfl, Nat.le_of_ble_eq_true rfl⟩ rfl rfl (fun H locs z17 hW => ?_)
    refine lv_if_ne (tgt := 65) hx hb dX7_mapsHold_60 (by decide) (fun c18 => ?_) (fun c18 => ?_)
    · replace hf := (if_neg c18).symm.trans hf
      refine lv_iinc (v := (x1 + (1 : Int32))) (lv' := [(1, .int (x1 + (1 : Int32))), (0, .ref (ka K 10))]) hx hb dX7_mapsHold_65 hl (k := 1) rfl rfl (by decide) rfl (fun ls hl => ?_)
      refine lv_goto (tgt := 46) hx hb dX7_mapsHold_68 (by decide) ?_
      exact hk46 _ _ hf _ _ _ (lv_sub hl [1, 0] rfl) hW
    · replace hf := (if_pos c18).symm.trans hf
      refine lv_iconst (v := (0 : Int32)) hx hb dX7_mapsHold_63 (by decide) ?_
      exact gw_retz F hW hf (Or.inl rfl) dX7_mapsHold_64
set_option maxHeartbeats 4000000 in
set_option maxRecDepth 100000 in
theorem wXX7_mapsHold_10_33 {p : Program} {l : Launch} {e : Env} {s : State} {m : MethodId} {args : Array Value} {below : List Frame} {meth : Method} {c : Code} {A : Nat → Prop} {K : KX} (F : fx_ p s m args meth c cX7_mapsHold 2 (some .boolean) RX7 wsX7_mapsHold) {k2 : (Int32 × XS) → Option (Int32 × XS)} (hk2 : ∀ t o, k2 t = some o → PXX7_mapsHold_10_2 p l e s m args below meth c A K t o) (x1 : Int32) (y0 : Int32) (y1 : Int32) (σ : XS) (o : (Int32 × XS)) (hf : fXX7_mapsHold_10_33 (kn K) k2 x1 y0 y1 σ = some o) (H : Heap) (locs : List Loc) (ls : Array Slot) (hl : lv_has ls 2 [(0, .ref (ka K 10)), (1, .int x1)]) (hW : gw_ (kD K) vwCl (tyX K) (wX K) A s σ H locs) : W p l e rXX7_mapsHold_10 s m args below meth c H locs 0 0 (MQ below (va_Qi (fun r u => (r = o.1 ∧ u = o.2) ∧ (o.1 = 0 ∨ o.1 = 1)) (gw_B (kD K) vwCl (tyX K) (wX K) A) A) args s rXX7_mapsHold_10.cells rXX7_mapsHold_10.slots A) (F0 m 33 ls [.int y0, .int y1]) := by
  have hx := F.1
  have hb := F.2.1
  have hml := F.2.2.2.1
  have hown := F.2.2.2.2.1
  have hts := F.2.2.2.2.2.1
  have hG : ∀ x ∈ gT, x.before args s = true := fun x h => hts x (List.mem_cons_of_mem _ h)
  unfold fXX7_mapsHold_10_33 at hf
  refine lv_icmp_eq (tgt := 38) hx hb dX7_mapsHold_33 (by decide) (fun c24 => ?_) (fun c24 => ?_)
  · replace hf := (if_pos c24).symm.trans hf
    refine lv_iinc (v := (x1 + (1 : Int32))) (lv' := [(1, .int (x1 + (1 : Int32))), (0, .ref (ka K 10))]) hx hb dX7_mapsHold_38 hl (k := 1) rfl rfl (by decide) rfl (fun ls hl => ?_)
    refine lv_goto (tgt := 2) hx hb dX7_mapsHold_41 (by decide) ?_
    exact hk2 _ _ hf _ _ _ (lv_sub hl [1, 0] rfl) hW
  · replace hf := (if_neg c24).symm.trans hf
    refine lv_iconst (v := (0 : Int32)) hx hb dX7_mapsHold_36 (by decide) ?_
    exact gw_retz F hW hf (Or.inl rfl) dX7_mapsHold_37
set_option maxHeartbeats 4000000 in
set_option maxRecDepth 100000 in
theorem wXX7_mapsHold_10_2 {p : Program} {l : Launch} {e : Env} {s : State} {m : MethodId} {args : Array Value} {below : List Frame} {meth : Method} {c : Code} {A : Nat → Prop} {K : KX} (F : fx_ p s m args meth c cX7_mapsHold 2 (some .boolean) RX7 wsX7_mapsHold) {k2 : (Int32 × XS) → Option (Int32 × XS)} (hk2 : ∀ t o, k2 t = some o → PXX7_mapsHold_10_2 p l e s m args below meth c A K t o) (x1 : Int32) (σ : XS) (o : (Int32 × XS)) (hf : fXX7_mapsHold_10_2 (kn K) k2 x1 σ = some o) (H : Heap) (locs : List Loc) (ls : Array Slot) (hl : lv_has ls 2 [(0, .ref (ka K 10)), (1, .int x1)]) (hW : gw_ (kD K) vwCl (tyX K) (wX K) A s σ H locs) : W p l e rXX7_mapsHold_10 s m args below meth c H locs 0 0 (MQ below (va_Qi (fun r u => (r = o.1 ∧ u = o.2) ∧ (o.1 = 0 ∨ o.1 = 1)) (gw_B (kD K) vwCl (tyX K) (wX K) A) A) args s rXX7_mapsHold_10.cells rXX7_mapsHold_10.slots A) (F0 m 2 ls []) := by
  have hx := F.1
  have hb := F.2.1
  have hml := F.2.2.2.1
  have hown := F.2.2.2.2.1
  have hts := F.2.2.2.2.2.1
  have hG : ∀ x ∈ gT, x.before args s = true := fun x h => hts x (List.mem_cons_of_mem _ h)
  unfold fXX7_mapsHold_10_2 at hf
  refine lv_iload_n hx hb dX7_mapsHold_2 rfl (lv_at hl 1 rfl) ?_
  refine lv_aload_n hx hb dX7_mapsHold_3 rfl (lv_at hl 0 rfl) ?_
  refine gw_get (v := .ref (ka K 13)) F inc_X7 hW 10 7 8 (aX_10 K σ) rfl (by decide) (hG _ q_1_178) (fun _ h9 => h9) rfl dX7_mapsHold_4 ?_
  refine gw_alen F hW 13 3 (aX_13 K σ) rfl dX7_mapsHold_7 ?_
  refine lv_icmp_ge (tgt := 44) hx hb dX7_mapsHold_8 (by decide) (fun c1 => ?_) (fun c1 => ?_)
  · replace hf := (if_pos c1).symm.trans hf
    refine lv_iconst (v := (1 : Int32)) hx hb dX7_mapsHold_44 (by decide) ?_
    refine lv_istore_n (lv' := [(1, .int (1 : Int32)), (0, .ref (ka K 10))]) hx hb dX7_mapsHold_45 rfl hl (by decide) rfl (fun ls hl => ?_)
    exact lfix_ind (P := PXX7_mapsHold_10_46 p l e s m args below meth c A K) (fun k46 hk46 t o hf => wXX7_mapsHold_10_46 F hk46 t.1 t.2 o hf) FU _ _ hf _ _ _ (lv_sub hl [1, 0] rfl) hW
  · replace hf := (if_neg c1).symm.trans hf
    refine lv_aload_n hx hb dX7_mapsHold_11 rfl (lv_at hl 0 rfl) ?_
    refine gw_get (v := .ref (ka K 4)) F inc_X7 hW 10 7 2 (aX_10 K σ) rfl (by decide) (hG _ q_1_172) (fun _ h9 => h9) rfl dX7_mapsHold_12 ?_
    refine lv_iload_n hx hb dX7_mapsHold_15 rfl (lv_at hl 1 rfl) ?_
    obtain ⟨o19, h20, hf⟩ := gw_bind hf
    refine gw_Vz (As := [.int x1]) (mc' := 0) (ms' := 0) F hW (mXX3_isUsed_4 h20) (cwV 1 hts (gT_V q_2_104 q_2_48 q_2_49 q_1_5 q_2_50) rfl rfl rfl hdX3_isUsed ⟨Nat.le_of_ble_eq_true rfl, Nat.le_of_ble_eq_true rfl⟩) 4 3 (aX_4 K σ) rfl rfl hl.1 rfl (Nat.le_of_ble_eq_true rfl) dX7_mapsHold_16 ⟨Nat.le_of_ble_eq_true rfl, Nat.le_of_ble_eq_true rfl⟩ rfl rfl (fun H locs z21 hW => ?_)
    refine lv_aload_n hx hb dX7_mapsHold_19 rfl (lv_at hl 0 rfl) ?_
    refine gw_get (v := .ref (ka K 13)) F inc_X7 hW 10 7 8 (aX_10 K o19.2) rfl (by decide) (hG _ q_1_178) (fun _ h9 => h9) rfl dX7_mapsHold_20 ?_
    refine lv_iload_n hx hb dX7_mapsHold_23 rfl (lv_at hl 1 rfl) ?_
    rcases Decidable.em (x1 < 0 ∨ (kn K) ≤ x1.toNatClampNeg) with c22 | c22
    · replace hf := (if_pos c22).symm.trans hf
      exact absurd hf (by simp)
    · replace hf := (if_neg c22).symm.trans hf
      refine gw_bald F hW 13 3 (aX_13 K o19.2) rfl c22 dX7_mapsHold_24 ?_
      refine lv_if_eq (tgt := 32) hx hb dX7_mapsHold_25 (by decide) (fun c23 => ?_) (fun c23 => ?_)
      · replace hf := (if_pos c23).symm.trans hf
        refine lv_iconst (v := (0 : Int32)) hx hb dX7_mapsHold_32 (by decide) ?_
        exact wXX7_mapsHold_10_33 F hk2 x1 (0 : Int32) o19.1 _ _ hf _ _ _ (lv_sub hl [0, 1] rfl) hW
      · replace hf := (if_neg c23).symm.trans hf
        refine lv_iconst (v := (1 : Int32)) hx hb dX7_mapsHold_28 (by decide) ?_
        refine lv_goto (tgt := 33) hx hb dX7_mapsHold_29 (by decide) ?_
        exact wXX7_mapsHold_10_33 F hk2 x1 (1 : Int32) o19.1 _ _ hf _ _ _ (lv_sub hl [0, 1] rfl) hW
set_option maxHeartbeats 4000000 in
set_option maxRecDepth 100000 in
theorem wXX7_mapsHold_10_0 {p : Program} {l : Launch} {e : Env} {s : State} {m : MethodId} {args : Array Value} {below : List Frame} {meth : Method} {c : Code} {A : Nat → Prop} {K : KX} (F : fx_ p s m args meth c cX7_mapsHold 2 (some .boolean) RX7 wsX7_mapsHold) (σ : XS) (o : (Int32 × XS)) (hf : fXX7_mapsHold_10_0 (kn K) σ = some o) (H : Heap) (locs : List Loc) (ls : Array Slot) (hl : lv_has ls 2 [(0, .ref (ka K 10))]) (hW : gw_ (kD K) vwCl (tyX K) (wX K) A s σ H locs) : W p l e rXX7_mapsHold_10 s m args below meth c H locs 0 0 (MQ below (va_Qi (fun r u => (r = o.1 ∧ u = o.2) ∧ (o.1 = 0 ∨ o.1 = 1)) (gw_B (kD K) vwCl (tyX K) (wX K) A) A) args s rXX7_mapsHold_10.cells rXX7_mapsHold_10.slots A) (F0 m 0 ls []) := by
  have hx := F.1
  have hb := F.2.1
  have hml := F.2.2.2.1
  have hown := F.2.2.2.2.1
  have hts := F.2.2.2.2.2.1
  have hG : ∀ x ∈ gT, x.before args s = true := fun x h => hts x (List.mem_cons_of_mem _ h)
  unfold fXX7_mapsHold_10_0 at hf
  refine lv_iconst (v := (1 : Int32)) hx hb dX7_mapsHold_0 (by decide) ?_
  refine lv_istore_n (lv' := [(1, .int (1 : Int32)), (0, .ref (ka K 10))]) hx hb dX7_mapsHold_1 rfl hl (by decide) rfl (fun ls hl => ?_)
  exact lfix_ind (P := PXX7_mapsHold_10_2 p l e s m args below meth c A K) (fun k2 hk2 t o hf => wXX7_mapsHold_10_2 F hk2 t.1 t.2 o hf) FU _ _ hf _ _ _ (lv_sub hl [1, 0] rfl) hW
set_option maxHeartbeats 4000000 in
set_option maxRecDepth 100000 in
theorem mXX7_mapsHold_10 {l : Launch} {K : KX} {σ : XS} {o : (Int32 × XS)} (hf : fXX7_mapsHold_10 (kn K) σ = some o) : gw_Mz l (kD K) vwCl (tyX K) (wX K) yX7_mapsHold wsX7_mapsHold rXX7_mapsHold_10 [.ref (ka K 10)] σ o := by
  intro sz
  refine gw_body (cc := cX7_mapsHold) (maxL := 2) (yret := some .boolean) (by decide +kernel) rfl ?_ (Nat.le_of_ble_eq_true rfl)
  intro p e s m below meth c F hsz hW ls hl
  exact wXX7_mapsHold_10_0 F σ o hf s.heap [] ls hl hW
abbrev rXX1_length_11 : Room := { frames := 0, cells := 0, slots := 0, locals := 0 }
set_option maxHeartbeats 4000000 in
set_option maxRecDepth 100000 in
theorem wXX1_length_11_0 {p : Program} {l : Launch} {e : Env} {s : State} {m : MethodId} {args : Array Value} {below : List Frame} {meth : Method} {c : Code} {A : Nat → Prop} {K : KX} (F : fx_ p s m args meth c cX1_length 1 (some .int) RX1 wsX1_length) (σ : XS) (o : (Int32 × XS)) (hf : fXX1_length_11_0 (kn K) σ = some o) (H : Heap) (locs : List Loc) (ls : Array Slot) (hl : lv_has ls 1 [(0, .ref (ka K 11))]) (hW : gw_ (kD K) vwCl (tyX K) (wX K) A s σ H locs) : W p l e rXX1_length_11 s m args below meth c H locs 0 0 (MQ below (gw_Qi (kD K) vwCl (tyX K) (wX K) A o) args s rXX1_length_11.cells rXX1_length_11.slots A) (F0 m 0 ls []) := by
  have hx := F.1
  have hb := F.2.1
  have hml := F.2.2.2.1
  have hown := F.2.2.2.2.1
  have hts := F.2.2.2.2.2.1
  have hG : ∀ x ∈ gT, x.before args s = true := fun x h => hts x (List.mem_cons_of_mem _ h)
  unfold fXX1_length_11_0 at hf
  refine lv_aload_n hx hb dX1_length_0 rfl (lv_at hl 0 rfl) ?_
  refine gw_get (v := .ref (ka K 12)) F inc_X1 hW 11 1 0 (aX_11 K σ) rfl (by decide) (hG _ q_1_53) (fun _ h9 => h9) rfl dX1_length_1 ?_
  refine gw_alen F hW 12 2 (aX_12 K σ) rfl dX1_length_4 ?_
  exact gw_reti F hW hf dX1_length_5
set_option maxHeartbeats 4000000 in
set_option maxRecDepth 100000 in
theorem mXX1_length_11 {l : Launch} {K : KX} {σ : XS} {o : (Int32 × XS)} (hf : fXX1_length_11 (kn K) σ = some o) : gw_Mi l (kD K) vwCl (tyX K) (wX K) yX1_length wsX1_length rXX1_length_11 [.ref (ka K 11)] σ o := by
  intro sz
  refine gw_body (cc := cX1_length) (maxL := 1) (yret := some .int) (by decide +kernel) rfl ?_ (Nat.le_of_ble_eq_true rfl)
  intro p e s m below meth c F hsz hW ls hl
  exact wXX1_length_11_0 F σ o hf s.heap [] ls hl hW
abbrev rXJ2_fill___12 : Room := { frames := 1, cells := 0, slots := 0, locals := 22 }
def PXJ2_fill___12_10 (p : Program) (l : Launch) (e : Env) (s : State) (m : MethodId) (args : Array Value) (below : List Frame) (meth : Method) (c : Code) (A : Nat → Prop) (K : KX) (t : (Int32 × Int32 × Int32 × XS)) (o : XS) : Prop := ∀ (H : Heap) (locs : List Loc) (ls : Array Slot), lv_has ls 5 [(0, .ref (ka K 12)), (2, .int t.1), (3, .int t.2.1), (4, .int t.2.2.1)] → gw_ (kD K) vwCl (tyX K) (wX K) A s t.2.2.2 H locs → W p l e rXJ2_fill___12 s m args below meth c H locs 0 0 (MQ below (gw_Qv (kD K) vwCl (tyX K) (wX K) A o) args s rXJ2_fill___12.cells rXJ2_fill___12.slots A) (F0 m 10 ls [])
set_option maxHeartbeats 4000000 in
set_option maxRecDepth 100000 in
theorem wXJ2_fill___12_10 {p : Program} {l : Launch} {e : Env} {s : State} {m : MethodId} {args : Array Value} {below : List Frame} {meth : Method} {c : Code} {A : Nat → Prop} {K : KX} (F : fx_ p s m args meth c cJ2_fill__ 5 none RJ2 wsJ2_fill__) {k10 : (Int32 × Int32 × Int32 × XS) → Option XS} (hk10 : ∀ t o, k10 t = some o → PXJ2_fill___12_10 p l e s m args below meth c A K t o) (x2 : Int32) (x3 : Int32) (x4 : Int32) (σ : XS) (o : XS) (hf : fXJ2_fill___12_10 (kn K) k10 x2 x3 x4 σ = some o) (H : Heap) (locs : List Loc) (ls : Array Slot) (hl : lv_has ls 5 [(0, .ref (ka K 12)), (2, .int x2), (3, .int x3), (4, .int x4)]) (hW : gw_ (kD K) vwCl (tyX K) (wX K) A s σ H locs) : W p l e rXJ2_fill___12 s m args below meth c H locs 0 0 (MQ below (gw_Qv (kD K) vwCl (tyX K) (wX K) A o) args s rXJ2_fill___12.cells rXJ2_fill___12.slots A) (F0 m 10 ls []) := by
  have hx := F.1
  have hb := F.2.1
  have hml := F.2.2.2.1
  have hown := F.2.2.2.2.1
  have hts := F.2.2.2.2.2.1
  have hG : ∀ x ∈ gT, x.before args s = true := fun x h => hts x (List.mem_cons_of_mem _ h)
  unfold fXJ2_fill___12_10 at hf
  refine lv_iload hx hb dJ2_fill___10 (lv_at hl 3 rfl) ?_
  refine lv_iload_n hx hb dJ2_fill___12 rfl (lv_at hl 1 rfl) ?_
  refine lv_icmp_ge (tgt := 27) hx hb dJ2_fill___13 (by decide) (fun c4 => ?_) (fun c4 => ?_)
  · replace hf := (if_pos c4).symm.trans hf
    exact gw_retv F hW hf dJ2_fill___27
  · replace hf := (if_neg c4).symm.trans hf
    refine lv_aload_n hx hb dJ2_fill___16 rfl (lv_at hl 0 rfl) ?_
    refine lv_iload hx hb dJ2_fill___17 (lv_at hl 3 rfl) ?_
    refine lv_iload_n hx hb dJ2_fill___19 rfl (lv_at hl 2 rfl) ?_
    rcases Decidable.em (x4 < 0 ∨ 2048 ≤ x4.toNatClampNeg) with c5 | c5
    · replace hf := (if_pos c5).symm.trans hf
      exact absurd hf (by simp)
    · replace hf := (if_neg c5).symm.trans hf
      refine gw_bast (σ' := (stA σ 2 x4.toNatClampNeg (vp_nar .byte x3))) F hW 12 2 (aX_12 K σ) rfl c5 dJ2_fill___20 (sAX_2 _ _ _) (fun H locs hW => ?_)
      refine lv_iinc (v := (x4 + (1 : Int32))) (lv' := [(4, .int (x4 + (1 : Int32))), (0, .ref (ka K 12)), (2, .int x2), (3, .int x3)]) hx hb dJ2_fill___21 hl (k := 3) rfl rfl (by decide) rfl (fun ls hl => ?_)
      refine lv_goto (tgt := 10) hx hb dJ2_fill___24 (by decide) ?_
      exact hk10 _ _ hf _ _ _ (lv_sub hl [1, 2, 3, 0] rfl) hW
set_option maxHeartbeats 4000000 in
set_option maxRecDepth 100000 in
theorem wXJ2_fill___12_0 {p : Program} {l : Launch} {e : Env} {s : State} {m : MethodId} {args : Array Value} {below : List Frame} {meth : Method} {c : Code} {A : Nat → Prop} {K : KX} (F : fx_ p s m args meth c cJ2_fill__ 5 none RJ2 wsJ2_fill__) (x1 : Int32) (x2 : Int32) (x3 : Int32) (σ : XS) (o : XS) (hf : fXJ2_fill___12_0 (kn K) x1 x2 x3 σ = some o) (H : Heap) (locs : List Loc) (ls : Array Slot) (hl : lv_has ls 5 [(0, .ref (ka K 12)), (1, .int x1), (2, .int x2), (3, .int x3)]) (hW : gw_ (kD K) vwCl (tyX K) (wX K) A s σ H locs) : W p l e rXJ2_fill___12 s m args below meth c H locs 0 0 (MQ below (gw_Qv (kD K) vwCl (tyX K) (wX K) A o) args s rXJ2_fill___12.cells rXJ2_fill___12.slots A) (F0 m 0 ls []) := by
  have hx := F.1
  have hb := F.2.1
  have hml := F.2.2.2.1
  have hown := F.2.2.2.2.1
  have hts := F.2.2.2.2.2.1
  have hG : ∀ x ∈ gT, x.before args s = true := fun x h => hts x (List.mem_cons_of_mem _ h)
  unfold fXJ2_fill___12_0 at hf
  refine lv_aload_n hx hb dJ2_fill___0 rfl (lv_at hl 0 rfl) ?_
  refine gw_alen F hW 12 2 (aX_12 K σ) rfl dJ2_fill___1 ?_
  refine lv_iload_n hx hb dJ2_fill___2 rfl (lv_at hl 1 rfl) ?_
  refine lv_iload_n hx hb dJ2_fill___3 rfl (lv_at hl 2 rfl) ?_
  obtain ⟨o1, h2, hf⟩ := gw_bind hf
  refine gw_Sv (As := [.int (Int32.ofNat 2048), .int x1, .int x2]) (mc' := 0) (ms' := 0) F hW (mXJ2_rangeCheck h2) (va_cwS 3 hts (gT_S q_3_48 q_3_49 q_1_14 q_3_50) rfl rfl rfl hdJ2_rangeCheck.2 ⟨Nat.le_of_ble_eq_true rfl, Nat.le_of_ble_eq_true rfl⟩) rfl hl.1 rfl (Nat.le_of_ble_eq_true rfl) dJ2_fill___4 ⟨Nat.le_of_ble_eq_true rfl, Nat.le_of_ble_eq_true rfl⟩ rfl rfl (fun H locs hW => ?_)
  refine lv_iload_n hx hb dJ2_fill___7 rfl (lv_at hl 1 rfl) ?_
  refine lv_istore (lv' := [(4, .int x1), (0, .ref (ka K 12)), (1, .int x1), (2, .int x2), (3, .int x3)]) hx hb dJ2_fill___8 hl (by decide) rfl (fun ls hl => ?_)
  exact lfix_ind (P := PXJ2_fill___12_10 p l e s m args below meth c A K) (fun k10 hk10 t o hf => wXJ2_fill___12_10 F hk10 t.1 t.2.1 t.2.2.1 t.2.2.2 o hf) FU _ _ hf _ _ _ (lv_sub hl [1, 3, 4, 0] rfl) hW
set_option maxHeartbeats 4000000 in
set_option maxRecDepth 100000 in
theorem mXJ2_fill___12 {l : Launch} {K : KX} {σ : XS} {x1 : Int32} {x2 : Int32} {x3 : Int32} {o : XS} (hf : fXJ2_fill___12 (kn K) x1 x2 x3 σ = some o) : gw_Mv l (kD K) vwCl (tyX K) (wX K) yJ2_fill__ wsJ2_fill__ rXJ2_fill___12 [.ref (ka K 12), .int x1, .int x2, .int x3] σ o := by
  intro sz
  refine gw_body (cc := cJ2_fill__) (maxL := 5) (yret := none) (by decide +kernel) rfl ?_ (Nat.le_of_ble_eq_true rfl)
  intro p e s m below meth c F hsz hW ls hl
  exact wXJ2_fill___12_0 F x1 x2 x3 σ o hf s.heap [] ls hl hW
abbrev rXX1_fill_11 : Room := { frames := 2, cells := 0, slots := 0, locals := 46 }
set_option maxHeartbeats 4000000 in
set_option maxRecDepth 100000 in
theorem wXX1_fill_11_0 {p : Program} {l : Launch} {e : Env} {s : State} {m : MethodId} {args : Array Value} {below : List Frame} {meth : Method} {c : Code} {A : Nat → Prop} {K : KX} (F : fx_ p s m args meth c cX1_fill 4 none RX1 wsX1_fill) (x1 : Int32) (x2 : Int32) (x3 : Int32) (σ : XS) (o : XS) (hf : fXX1_fill_11_0 (kn K) x1 x2 x3 σ = some o) (H : Heap) (locs : List Loc) (ls : Array Slot) (hl : lv_has ls 4 [(0, .ref (ka K 11)), (1, .int x1), (2, .int x2), (3, .int x3)]) (hW : gw_ (kD K) vwCl (tyX K) (wX K) A s σ H locs) : W p l e rXX1_fill_11 s m args below meth c H locs 0 0 (MQ below (gw_Qv (kD K) vwCl (tyX K) (wX K) A o) args s rXX1_fill_11.cells rXX1_fill_11.slots A) (F0 m 0 ls []) := by
  have hx := F.1
  have hb := F.2.1
  have hml := F.2.2.2.1
  have hown := F.2.2.2.2.1
  have hts := F.2.2.2.2.2.1
  have hG : ∀ x ∈ gT, x.before args s = true := fun x h => hts x (List.mem_cons_of_mem _ h)
  unfold fXX1_fill_11_0 at hf
  refine lv_iload_n hx hb dX1_fill_0 rfl (lv_at hl 1 rfl) ?_
  refine lv_if_lt (tgt := 29) hx hb dX1_fill_1 (by decide) (fun c1 => ?_) (fun c1 => ?_)
  · replace hf := (if_pos c1).symm.trans hf
    exact gw_retv F hW hf dX1_fill_29
  · replace hf := (if_neg c1).symm.trans hf
    refine lv_iload_n hx hb dX1_fill_4 rfl (lv_at hl 1 rfl) ?_
    refine lv_iload_n hx hb dX1_fill_5 rfl (lv_at hl 2 rfl) ?_
    refine lv_icmp_gt (tgt := 29) hx hb dX1_fill_6 (by decide) (fun c2 => ?_) (fun c2 => ?_)
    · replace hf := (if_pos c2).symm.trans hf
      exact gw_retv F hW hf dX1_fill_29
    · replace hf := (if_neg c2).symm.trans hf
      refine lv_iload_n hx hb dX1_fill_9 rfl (lv_at hl 2 rfl) ?_
      refine lv_aload_n hx hb dX1_fill_10 rfl (lv_at hl 0 rfl) ?_
      refine gw_get (v := .ref (ka K 12)) F inc_X1 hW 11 1 0 (aX_11 K σ) rfl (by decide) (hG _ q_1_53) (fun _ h9 => h9) rfl dX1_fill_11 ?_
      refine gw_alen F hW 12 2 (aX_12 K σ) rfl dX1_fill_14 ?_
      refine lv_icmp_gt (tgt := 29) hx hb dX1_fill_15 (by decide) (fun c3 => ?_) (fun c3 => ?_)
      · replace hf := (if_pos c3).symm.trans hf
        exact gw_retv F hW hf dX1_fill_29
      · replace hf := (if_neg c3).symm.trans hf
        refine lv_aload_n hx hb dX1_fill_18 rfl (lv_at hl 0 rfl) ?_
        refine gw_get (v := .ref (ka K 12)) F inc_X1 hW 11 1 0 (aX_11 K σ) rfl (by decide) (hG _ q_1_53) (fun _ h9 => h9) rfl dX1_fill_19 ?_
        refine lv_iload_n hx hb dX1_fill_22 rfl (lv_at hl 1 rfl) ?_
        refine lv_iload_n hx hb dX1_fill_23 rfl (lv_at hl 2 rfl) ?_
        refine lv_iload_n hx hb dX1_fill_24 rfl (lv_at hl 3 rfl) ?_
        refine lv_i2b (v := x3.toInt8.toInt32) hx hb dX1_fill_25 rfl ?_
        obtain ⟨o4, h5, hf⟩ := gw_bind hf
        refine gw_Sv (As := [.ref (ka K 12), .int x1, .int x2, .int x3.toInt8.toInt32]) (mc' := 0) (ms' := 0) F hW (mXJ2_fill___12 h5) (va_cwS 4 hts (gT_S q_3_45 q_3_46 q_1_14 q_3_47) rfl rfl rfl hdJ2_fill__.2 ⟨Nat.le_of_ble_eq_true rfl, Nat.le_of_ble_eq_true rfl⟩) rfl hl.1 rfl (Nat.le_of_ble_eq_true rfl) dX1_fill_26 ⟨Nat.le_of_ble_eq_true rfl, Nat.le_of_ble_eq_true rfl⟩ rfl rfl (fun H locs hW => ?_)
        exact gw_retv F hW hf dX1_fill_29
set_option maxHeartbeats 4000000 in
set_option maxRecDepth 100000 in
theorem mXX1_fill_11 {l : Launch} {K : KX} {σ : XS} {x1 : Int32} {x2 : Int32} {x3 : Int32} {o : XS} (hf : fXX1_fill_11 (kn K) x1 x2 x3 σ = some o) : gw_Mv l (kD K) vwCl (tyX K) (wX K) yX1_fill wsX1_fill rXX1_fill_11 [.ref (ka K 11), .int x1, .int x2, .int x3] σ o := by
  intro sz
  refine gw_body (cc := cX1_fill) (maxL := 4) (yret := none) (by decide +kernel) rfl ?_ (Nat.le_of_ble_eq_true rfl)
  intro p e s m below meth c F hsz hW ls hl
  exact wXX1_fill_11_0 F x1 x2 x3 σ o hf s.heap [] ls hl hW
