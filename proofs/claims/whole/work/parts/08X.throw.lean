abbrev rXX0_format_0 : Room := { frames := 6, cells := 1, slots := 6, locals := 144 }
def PXX0_format_0_67 (p : Program) (l : Launch) (e : Env) (s : State) (m : MethodId) (args : Array Value) (below : List Frame) (meth : Method) (c : Code) (A : Nat → Prop) (K : KX) (t : (Int32 × XS)) (o : (Nat × Int32 × XS)) : Prop := ∀ (H : Heap) (locs : List Loc) (ls : Array Slot), lv_has ls 5 [(0, .ref (ka K 0)), (4, .int t.1)] → gw_ (kD K) vwCl (tyX K) (wX K) A s t.2 H locs → W p l e rXX0_format_0 s m args below meth c H locs 0 0 (gx_Q o.1 (MQ below (gw_Qi (kD K) vwCl (tyX K) (wX K) A o.2) args s rXX0_format_0.cells rXX0_format_0.slots A) (gx_T below (kD K) vwCl (tyX K) (wX K) A o.1 o.2.2 s rXX0_format_0.cells rXX0_format_0.slots)) (F0 m 67 ls [])
set_option maxHeartbeats 4000000 in
set_option maxRecDepth 100000 in
theorem wXX0_format_0_67 {p : Program} {l : Launch} {e : Env} {s : State} {m : MethodId} {args : Array Value} {below : List Frame} {meth : Method} {c : Code} {A : Nat → Prop} {K : KX} (F : fx_ p s m args meth c cX0_format 5 (some .int) RX0 wsX0_format) (hl9 : l.stackTraces = false) (hT : ∀ x ∈ c.exceptionTable.toList, False) (hZ : xz_ A s) {k67 : (Int32 × XS) → Option (Nat × Int32 × XS)} (hk67 : ∀ t o, k67 t = some o → PXX0_format_0_67 p l e s m args below meth c A K t o) (x4 : Int32) (σ : XS) (o : (Nat × Int32 × XS)) (hf : fXX0_format_0_67 (kn K) k67 x4 σ = some o) (H : Heap) (locs : List Loc) (ls : Array Slot) (hl : lv_has ls 5 [(0, .ref (ka K 0)), (4, .int x4)]) (hW : gw_ (kD K) vwCl (tyX K) (wX K) A s σ H locs) : W p l e rXX0_format_0 s m args below meth c H locs 0 0 (gx_Q o.1 (MQ below (gw_Qi (kD K) vwCl (tyX K) (wX K) A o.2) args s rXX0_format_0.cells rXX0_format_0.slots A) (gx_T below (kD K) vwCl (tyX K) (wX K) A o.1 o.2.2 s rXX0_format_0.cells rXX0_format_0.slots)) (F0 m 67 ls []) := by
  have hx := F.1
  have hb := F.2.1
  have hml := F.2.2.2.1
  have hown := F.2.2.2.2.1
  have hts := F.2.2.2.2.2.1
  have hG : ∀ x ∈ gT, x.before args s = true := fun x h => hts x (List.mem_cons_of_mem _ h)
  unfold fXX0_format_0_67 at hf
  refine lv_iload hx hb dX0_format_67 (lv_at hl 1 rfl) ?_
  refine lv_bipush (v := (11 : Int32)) hx hb dX0_format_69 (by decide) ?_
  refine lv_icmp_gt (tgt := 88) hx hb dX0_format_71 (by decide) (fun c20 => ?_) (fun c20 => ?_)
  · replace hf := (if_pos c20).symm.trans hf
    refine lv_aload_n hx hb dX0_format_88 rfl (lv_at hl 0 rfl) ?_
    refine gw_get (v := .ref (ka K 6)) F inc_X0 hW 0 0 4 (aX_0 K σ) rfl (by decide) (hG _ q_1_227) (fun _ h9 => h9) rfl dX0_format_89 ?_
    refine lv_iconst (v := (2 : Int32)) hx hb dX0_format_92 (by decide) ?_
    refine lv_iconst (v := (1 : Int32)) hx hb dX0_format_93 (by decide) ?_
    obtain ⟨o21, h22, hf⟩ := gw_bind hf
    refine gw_Vv (As := [.int (2 : Int32), .int (1 : Int32)]) (mc' := 0) (ms' := 0) F hW (mXX4_begin_6 h22) (cwV 2 hts (gT_V q_5_7 q_5_8 q_5_9 q_1_6 q_5_10) rfl rfl rfl hdX4_begin ⟨Nat.le_of_ble_eq_true rfl, Nat.le_of_ble_eq_true rfl⟩) 6 4 (aX_6 K σ) rfl rfl hl.1 rfl (Nat.le_of_ble_eq_true rfl) dX0_format_94 ⟨Nat.le_of_ble_eq_true rfl, Nat.le_of_ble_eq_true rfl⟩ rfl rfl (fun H locs hW => ?_)
    refine lv_aload_n hx hb dX0_format_97 rfl (lv_at hl 0 rfl) ?_
    refine gw_get (v := .ref (ka K 6)) F inc_X0 hW 0 0 4 (aX_0 K o21) rfl (by decide) (hG _ q_1_227) (fun _ h9 => h9) rfl dX0_format_98 ?_
    refine lv_iconst (v := (2 : Int32)) hx hb dX0_format_101 (by decide) ?_
    refine lv_iconst (v := (1 : Int32)) hx hb dX0_format_102 (by decide) ?_
    obtain ⟨o24, h25, hf⟩ := gw_bind hf
    refine gw_Vv (As := [.int (2 : Int32), .int (1 : Int32)]) (mc' := 0) (ms' := 0) F hW (mXX4_countDirectories_6 h25) (cwV 2 hts (gT_V q_5_13 q_5_14 q_5_15 q_1_6 q_5_16) rfl rfl rfl hdX4_countDirectories ⟨Nat.le_of_ble_eq_true rfl, Nat.le_of_ble_eq_true rfl⟩) 6 4 (aX_6 K o21) rfl rfl hl.1 rfl (Nat.le_of_ble_eq_true rfl) dX0_format_103 ⟨Nat.le_of_ble_eq_true rfl, Nat.le_of_ble_eq_true rfl⟩ rfl rfl (fun H locs hW => ?_)
    refine lv_aload_n hx hb dX0_format_106 rfl (lv_at hl 0 rfl) ?_
    refine gw_get (v := .ref (ka K 7)) F inc_X0 hW 0 0 5 (aX_0 K o24) rfl (by decide) (hG _ q_1_228) (fun _ h9 => h9) rfl dX0_format_107 ?_
    refine lv_aload_n hx hb dX0_format_110 rfl (lv_at hl 0 rfl) ?_
    refine gw_get (v := .ref (ka K 6)) F inc_X0 hW 0 0 4 (aX_0 K o24) rfl (by decide) (hG _ q_1_227) (fun _ h9 => h9) rfl dX0_format_111 ?_
    refine lv_iconst (v := (2 : Int32)) hx hb dX0_format_114 (by decide) ?_
    obtain ⟨o27, h28, hf⟩ := gw_bind hf
    refine gw_Vi (As := [.int (2 : Int32)]) (mc' := 0) (ms' := 0) F hW (mXX4_addDirectoryBlock_6 h28) (cwV 1 hts (gT_V q_5_22 q_5_23 q_5_24 q_1_6 q_5_25) rfl rfl rfl hdX4_addDirectoryBlock ⟨Nat.le_of_ble_eq_true rfl, Nat.le_of_ble_eq_true rfl⟩) 6 4 (aX_6 K o24) rfl rfl hl.1 rfl (Nat.le_of_ble_eq_true rfl) dX0_format_115 ⟨Nat.le_of_ble_eq_true rfl, Nat.le_of_ble_eq_true rfl⟩ rfl rfl (fun H locs hW => ?_)
    refine lv_iconst (v := (2 : Int32)) hx hb dX0_format_118 (by decide) ?_
    refine lv_iconst (v := (2 : Int32)) hx hb dX0_format_119 (by decide) ?_
    obtain ⟨o30, h31, hf⟩ := gw_bind hf
    refine gw_Vv (As := [.int o27.1, .int (2 : Int32), .int (2 : Int32)]) (mc' := 0) (ms' := 0) F hW (mXX5_layDots_7 h31) (cwV 3 hts (gT_V q_5_51 q_5_52 q_5_53 q_1_7 q_5_54) rfl rfl rfl hdX5_layDots ⟨Nat.le_of_ble_eq_true rfl, Nat.le_of_ble_eq_true rfl⟩) 7 5 (aX_7 K o27.2) rfl rfl hl.1 rfl (Nat.le_of_ble_eq_true rfl) dX0_format_120 ⟨Nat.le_of_ble_eq_true rfl, Nat.le_of_ble_eq_true rfl⟩ rfl rfl (fun H locs hW => ?_)
    refine lv_aload_n hx hb dX0_format_123 rfl (lv_at hl 0 rfl) ?_
    refine lv_iconst (v := (1 : Int32)) hx hb dX0_format_124 (by decide) ?_
    refine gw_put (σ' := (stS o30 0 (1 : Int32))) (ty := .boolean) F inc_X0 tyX0 tyX0_ok nmX0 hW 0 0 9 (aX_0 K o30) rfl (by decide) (hG _ q_1_232) (fun _ h9 => h9) rfl (by decide +kernel) rfl rfl (Nat.le_of_ble_eq_true rfl) dX0_format_125 (sSX_0 _ _ _) (fun H locs hW => ?_)
    refine lv_aload_n hx hb dX0_format_128 rfl (lv_at hl 0 rfl) ?_
    refine lv_iconst (v := (2 : Int32)) hx hb dX0_format_129 (by decide) ?_
    refine gw_put (σ' := (stS (stS o30 0 (1 : Int32)) 1 (2 : Int32))) (ty := .int) F inc_X0 tyX0 tyX0_ok nmX0 hW 0 0 10 (aX_0 K (stS o30 0 (1 : Int32))) rfl (by decide) (hG _ q_1_233) (fun _ h9 => h9) rfl (by decide +kernel) rfl rfl (Nat.le_of_ble_eq_true rfl) dX0_format_130 (sSX_1 _ _ _) (fun H locs hW => ?_)
    refine lv_aload_n hx hb dX0_format_133 rfl (lv_at hl 0 rfl) ?_
    refine gw_get (v := .ref (ka K 4)) F inc_X0 hW 0 0 2 (aX_0 K (stS (stS o30 0 (1 : Int32)) 1 (2 : Int32))) rfl (by decide) (hG _ q_1_225) (fun _ h9 => h9) rfl dX0_format_134 ?_
    obtain ⟨o33, h34, hf⟩ := gw_bind hf
    refine gw_Vi (As := []) (mc' := 0) (ms' := 0) F hW (mXX3_free_4 h34) (cwV 0 hts (gT_V q_4_184 q_4_185 q_4_186 q_1_5 q_4_187) rfl rfl rfl hdX3_free ⟨Nat.le_of_ble_eq_true rfl, Nat.le_of_ble_eq_true rfl⟩) 4 3 (aX_4 K (stS (stS o30 0 (1 : Int32)) 1 (2 : Int32))) rfl rfl hl.1 rfl (Nat.le_of_ble_eq_true rfl) dX0_format_137 ⟨Nat.le_of_ble_eq_true rfl, Nat.le_of_ble_eq_true rfl⟩ rfl rfl (fun H locs hW => ?_)
    refine W.widen (k := rXX0_format_0.cells) (n := rXX0_format_0.slots) (Nat.le_of_ble_eq_true rfl) (Nat.le_of_ble_eq_true rfl) ?_
    cases hf
    exact gx_ret0 rfl (gw_reti F hW rfl dX0_format_140)
  · replace hf := (if_neg c20).symm.trans hf
    refine lv_aload_n hx hb dX0_format_74 rfl (lv_at hl 0 rfl) ?_
    refine gw_get (v := .ref (ka K 5)) F inc_X0 hW 0 0 3 (aX_0 K σ) rfl (by decide) (hG _ q_1_226) (fun _ h9 => h9) rfl dX0_format_75 ?_
    obtain ⟨o36, h37, hf⟩ := gw_bind hf
    refine gw_Vi (As := []) (mc' := 0) (ms' := 0) F hW (mXX3_take_5 h37) (cwV 0 hts (gT_V q_4_233 q_4_234 q_4_235 q_1_5 q_4_236) rfl rfl rfl hdX3_take ⟨Nat.le_of_ble_eq_true rfl, Nat.le_of_ble_eq_true rfl⟩) 5 3 (aX_5 K σ) rfl rfl hl.1 rfl (Nat.le_of_ble_eq_true rfl) dX0_format_78 ⟨Nat.le_of_ble_eq_true rfl, Nat.le_of_ble_eq_true rfl⟩ rfl rfl (fun H locs hW => ?_)
    refine lv_pop hx hb dX0_format_81 rfl ?_
    refine lv_iinc (v := (x4 + (1 : Int32))) (lv' := [(4, .int (x4 + (1 : Int32))), (0, .ref (ka K 0))]) hx hb dX0_format_82 hl (k := 1) rfl rfl (by decide) rfl (fun ls hl => ?_)
    refine lv_goto (tgt := 67) hx hb dX0_format_85 (by decide) ?_
    exact hk67 _ _ hf _ _ _ (lv_sub hl [1, 0] rfl) hW
set_option maxHeartbeats 4000000 in
set_option maxRecDepth 100000 in
theorem wXX0_format_0_0 {p : Program} {l : Launch} {e : Env} {s : State} {m : MethodId} {args : Array Value} {below : List Frame} {meth : Method} {c : Code} {A : Nat → Prop} {K : KX} (F : fx_ p s m args meth c cX0_format 5 (some .int) RX0 wsX0_format) (hl9 : l.stackTraces = false) (hT : ∀ x ∈ c.exceptionTable.toList, False) (hZ : xz_ A s) (x1 : Int32) (x2 : Int32) (x3 : Int32) (σ : XS) (o : (Nat × Int32 × XS)) (hf : fXX0_format_0_0 (kn K) x1 x2 x3 σ = some o) (H : Heap) (locs : List Loc) (ls : Array Slot) (hl : lv_has ls 5 [(0, .ref (ka K 0)), (1, .int x1), (2, .int x2), (3, .int x3)]) (hW : gw_ (kD K) vwCl (tyX K) (wX K) A s σ H locs) : W p l e rXX0_format_0 s m args below meth c H locs 0 0 (gx_Q o.1 (MQ below (gw_Qi (kD K) vwCl (tyX K) (wX K) A o.2) args s rXX0_format_0.cells rXX0_format_0.slots A) (gx_T below (kD K) vwCl (tyX K) (wX K) A o.1 o.2.2 s rXX0_format_0.cells rXX0_format_0.slots)) (F0 m 0 ls []) := by
  have hx := F.1
  have hb := F.2.1
  have hml := F.2.2.2.1
  have hown := F.2.2.2.2.1
  have hts := F.2.2.2.2.2.1
  have hG : ∀ x ∈ gT, x.before args s = true := fun x h => hts x (List.mem_cons_of_mem _ h)
  unfold fXX0_format_0_0 at hf
  refine lv_aload_n hx hb dX0_format_0 rfl (lv_at hl 0 rfl) ?_
  refine gw_get (v := .ref (ka K 3)) F inc_X0 hW 0 0 1 (aX_0 K σ) rfl (by decide) (hG _ q_1_224) (fun _ h9 => h9) rfl dX0_format_1 ?_
  refine lv_iload_n hx hb dX0_format_4 rfl (lv_at hl 1 rfl) ?_
  refine lv_iload_n hx hb dX0_format_5 rfl (lv_at hl 2 rfl) ?_
  obtain ⟨o1, h2, hf⟩ := gw_bind hf
  refine gw_Vz (As := [.int x1, .int x2]) (mc' := 0) (ms' := 0) F hW (mXX2_choose_3 h2) (cwV 2 hts (gT_V q_4_202 q_4_203 q_4_204 q_1_4 q_4_205) rfl rfl rfl hdX2_choose ⟨Nat.le_of_ble_eq_true rfl, Nat.le_of_ble_eq_true rfl⟩) 3 2 (aX_3 K σ) rfl rfl hl.1 rfl (Nat.le_of_ble_eq_true rfl) dX0_format_6 ⟨Nat.le_of_ble_eq_true rfl, Nat.le_of_ble_eq_true rfl⟩ rfl rfl (fun H locs z3 hW => ?_)
  refine lv_if_ne (tgt := 22) hx hb dX0_format_9 (by decide) (fun c4 => ?_) (fun c4 => ?_)
  · replace hf := (if_neg c4).symm.trans hf
    refine lv_aload_n hx hb dX0_format_22 rfl (lv_at hl 0 rfl) ?_
    refine gw_get (v := .ref (ka K 1)) F inc_X0 hW 0 0 0 (aX_0 K o1.2) rfl (by decide) (hG _ q_1_223) (fun _ h9 => h9) rfl dX0_format_23 ?_
    refine lv_iconst (v := (0 : Int32)) hx hb dX0_format_26 (by decide) ?_
    refine lv_aload_n hx hb dX0_format_27 rfl (lv_at hl 0 rfl) ?_
    refine gw_get (v := .ref (ka K 1)) F inc_X0 hW 0 0 0 (aX_0 K o1.2) rfl (by decide) (hG _ q_1_223) (fun _ h9 => h9) rfl dX0_format_28 ?_
    obtain ⟨o5, h6, hf⟩ := gw_bind hf
    refine gw_Vi (As := []) (mc' := 0) (ms' := 0) F hW (mXX1_length_1 h6) (cwV 0 hts (gT_V q_2_43 q_2_44 q_2_45 q_1_3 q_2_46) rfl rfl rfl hdX1_length ⟨Nat.le_of_ble_eq_true rfl, Nat.le_of_ble_eq_true rfl⟩) 1 1 (aX_1 K o1.2) rfl rfl hl.1 rfl (Nat.le_of_ble_eq_true rfl) dX0_format_31 ⟨Nat.le_of_ble_eq_true rfl, Nat.le_of_ble_eq_true rfl⟩ rfl rfl (fun H locs hW => ?_)
    refine lv_iconst (v := (0 : Int32)) hx hb dX0_format_34 (by decide) ?_
    obtain ⟨o8, h9, hf⟩ := gw_bind hf
    refine gw_Vv (As := [.int (0 : Int32), .int o5.1, .int (0 : Int32)]) (mc' := 0) (ms' := 0) F hW (mXX1_fill_1 h9) (cwV 3 hts (gT_V q_4_209 q_3_42 q_3_43 q_1_3 q_3_44) rfl rfl rfl hdX1_fill ⟨Nat.le_of_ble_eq_true rfl, Nat.le_of_ble_eq_true rfl⟩) 1 1 (aX_1 K o5.2) rfl rfl hl.1 rfl (Nat.le_of_ble_eq_true rfl) dX0_format_35 ⟨Nat.le_of_ble_eq_true rfl, Nat.le_of_ble_eq_true rfl⟩ rfl rfl (fun H locs hW => ?_)
    refine lv_aload_n hx hb dX0_format_38 rfl (lv_at hl 0 rfl) ?_
    refine gw_get (v := .ref (ka K 4)) F inc_X0 hW 0 0 2 (aX_0 K o8) rfl (by decide) (hG _ q_1_225) (fun _ h9 => h9) rfl dX0_format_39 ?_
    obtain ⟨o11, h12, hf⟩ := gw_bind hf
    refine gw_Vv (As := []) (mc' := 0) (ms' := 0) F hW (mXX3_lay_4 h12) (cwV 0 hts (gT_V q_4_210 q_4_211 q_4_212 q_1_5 q_4_213) rfl rfl rfl hdX3_lay ⟨Nat.le_of_ble_eq_true rfl, Nat.le_of_ble_eq_true rfl⟩) 4 3 (aX_4 K o8) rfl rfl hl.1 rfl (Nat.le_of_ble_eq_true rfl) dX0_format_42 ⟨Nat.le_of_ble_eq_true rfl, Nat.le_of_ble_eq_true rfl⟩ rfl rfl (fun H locs hW => ?_)
    refine lv_aload_n hx hb dX0_format_45 rfl (lv_at hl 0 rfl) ?_
    refine gw_get (v := .ref (ka K 5)) F inc_X0 hW 0 0 3 (aX_0 K o11) rfl (by decide) (hG _ q_1_226) (fun _ h9 => h9) rfl dX0_format_46 ?_
    obtain ⟨o14, h15, hf⟩ := gw_bind hf
    refine gw_Vv (As := []) (mc' := 0) (ms' := 0) F hW (mXX3_lay_5 h15) (cwV 0 hts (gT_V q_4_210 q_4_211 q_4_212 q_1_5 q_4_213) rfl rfl rfl hdX3_lay ⟨Nat.le_of_ble_eq_true rfl, Nat.le_of_ble_eq_true rfl⟩) 5 3 (aX_5 K o11) rfl rfl hl.1 rfl (Nat.le_of_ble_eq_true rfl) dX0_format_49 ⟨Nat.le_of_ble_eq_true rfl, Nat.le_of_ble_eq_true rfl⟩ rfl rfl (fun H locs hW => ?_)
    refine lv_aload_n hx hb dX0_format_52 rfl (lv_at hl 0 rfl) ?_
    refine gw_get (v := .ref (ka K 9)) F inc_X0 hW 0 0 6 (aX_0 K o14) rfl (by decide) (hG _ q_1_229) (fun _ h9 => h9) rfl dX0_format_53 ?_
    refine lv_aload_n hx hb dX0_format_56 rfl (lv_at hl 0 rfl) ?_
    refine gw_get (v := .ref (ka K 1)) F inc_X0 hW 0 0 0 (aX_0 K o14) rfl (by decide) (hG _ q_1_223) (fun _ h9 => h9) rfl dX0_format_57 ?_
    refine lv_iload_n hx hb dX0_format_60 rfl (lv_at hl 3 rfl) ?_
    obtain ⟨o17, h18, hf⟩ := gw_bind hf
    refine gw_Vv (As := [.ref (ka K 1), .int x3]) (mc' := 0) (ms' := 0) F hW (mXX6_lay_9_1 h18) (cwV 2 hts (gT_V q_4_222 q_4_223 q_4_224 q_1_8 q_4_225) rfl rfl rfl hdX6_lay ⟨Nat.le_of_ble_eq_true rfl, Nat.le_of_ble_eq_true rfl⟩) 9 6 (aX_9 K o14) rfl rfl hl.1 rfl (Nat.le_of_ble_eq_true rfl) dX0_format_61 ⟨Nat.le_of_ble_eq_true rfl, Nat.le_of_ble_eq_true rfl⟩ rfl rfl (fun H locs hW => ?_)
    refine lv_iconst (v := (1 : Int32)) hx hb dX0_format_64 (by decide) ?_
    refine lv_istore (lv' := [(4, .int (1 : Int32)), (0, .ref (ka K 0)), (1, .int x1), (2, .int x2), (3, .int x3)]) hx hb dX0_format_65 hl (by decide) rfl (fun ls hl => ?_)
    exact lfix_ind (P := PXX0_format_0_67 p l e s m args below meth c A K) (fun k67 hk67 t o hf => wXX0_format_0_67 F hl9 hT hZ hk67 t.1 t.2 o hf) FU _ _ hf _ _ _ (lv_sub hl [1, 0] rfl) hW
  · replace hf := (if_pos c4).symm.trans hf
    cases hf
    exact gx_throw (k := 3) (text := "no volume can be made so on this disk") F hl9 hT hZ hG hW (by decide) rfl (by decide +kernel) q_4_206 q_1_18 q_3_52 (List.mem_of_getElem? (i := 0) rfl) ow_3_109 hl.1 dX0_format_12 dX0_format_15 (Or.inl ⟨rfl, rfl⟩) dX0_format_16 dX0_format_18 dX0_format_21 (Nat.le_of_ble_eq_true rfl) (Nat.le_of_ble_eq_true rfl) (Nat.le_of_ble_eq_true rfl) (Nat.le_of_ble_eq_true rfl) (Nat.le_of_ble_eq_true rfl) (Nat.le_of_ble_eq_true rfl)
set_option maxHeartbeats 4000000 in
set_option maxRecDepth 100000 in
theorem mXX0_format_0 {l : Launch} (hl9 : l.stackTraces = false) {K : KX} {σ : XS} {x1 : Int32} {x2 : Int32} {x3 : Int32} {o : (Nat × Int32 × XS)} (hf : fXX0_format_0 (kn K) x1 x2 x3 σ = some o) : gx_Mi l (kD K) vwCl (tyX K) (wX K) yX0_format wsX0_format rXX0_format_0 [.ref (ka K 0), .int x1, .int x2, .int x3] σ o := by
  refine gx_body (cc := cX0_format) (maxL := 5) (yret := some .int) (by decide +kernel) rfl ?_ (Nat.le_of_ble_eq_true rfl)
  intro p e s m below meth c A F hT hZ hW ls hl
  exact wXX0_format_0_0 F hl9 hT hZ x1 x2 x3 σ o hf s.heap [] ls hl hW
abbrev rXX0_needVolume_0 : Room := { frames := 6, cells := 1, slots := 6, locals := 91 }
set_option maxHeartbeats 4000000 in
set_option maxRecDepth 100000 in
theorem wXX0_needVolume_0_0 {p : Program} {l : Launch} {e : Env} {s : State} {m : MethodId} {args : Array Value} {below : List Frame} {meth : Method} {c : Code} {A : Nat → Prop} {K : KX} (F : fx_ p s m args meth c cX0_needVolume 1 none RX0 wsX0_needVolume) (hl9 : l.stackTraces = false) (hT : ∀ x ∈ c.exceptionTable.toList, False) (hZ : xz_ A s) (σ : XS) (o : (Nat × XS)) (hf : fXX0_needVolume_0_0 (kn K) σ = some o) (H : Heap) (locs : List Loc) (ls : Array Slot) (hl : lv_has ls 1 [(0, .ref (ka K 0))]) (hW : gw_ (kD K) vwCl (tyX K) (wX K) A s σ H locs) : W p l e rXX0_needVolume_0 s m args below meth c H locs 0 0 (gx_Q o.1 (MQ below (gw_Qv (kD K) vwCl (tyX K) (wX K) A o.2) args s rXX0_needVolume_0.cells rXX0_needVolume_0.slots A) (gx_T below (kD K) vwCl (tyX K) (wX K) A o.1 o.2 s rXX0_needVolume_0.cells rXX0_needVolume_0.slots)) (F0 m 0 ls []) := by
  have hx := F.1
  have hb := F.2.1
  have hml := F.2.2.2.1
  have hown := F.2.2.2.2.1
  have hts := F.2.2.2.2.2.1
  have hG : ∀ x ∈ gT, x.before args s = true := fun x h => hts x (List.mem_cons_of_mem _ h)
  unfold fXX0_needVolume_0_0 at hf
  refine lv_aload_n hx hb dX0_needVolume_0 rfl (lv_at hl 0 rfl) ?_
  refine gw_get (v := .int (σ.1 0)) F inc_X0 hW 0 0 9 (aX_0 K σ) rfl (by decide) (hG _ q_1_232) (fun _ h9 => h9) rfl dX0_needVolume_1 ?_
  refine lv_if_ne (tgt := 18) hx hb dX0_needVolume_4 (by decide) (fun c1 => ?_) (fun c1 => ?_)
  · replace hf := (if_neg c1).symm.trans hf
    refine W.widen (k := rXX0_needVolume_0.cells) (n := rXX0_needVolume_0.slots) (Nat.le_of_ble_eq_true rfl) (Nat.le_of_ble_eq_true rfl) ?_
    cases hf
    exact gx_ret0 rfl (gw_retv F hW rfl dX0_needVolume_18)
  · replace hf := (if_pos c1).symm.trans hf
    cases hf
    exact gx_throw (k := 1) (text := "there is no volume") F hl9 hT hZ hG hW (by decide) rfl (by decide +kernel) q_5_70 q_1_29 q_5_71 (List.mem_of_getElem? (i := 9) rfl) ow_1_287 hl.1 dX0_needVolume_7 dX0_needVolume_10 (Or.inr ⟨rfl, rfl⟩) dX0_needVolume_11 dX0_needVolume_14 dX0_needVolume_17 (Nat.le_of_ble_eq_true rfl) (Nat.le_of_ble_eq_true rfl) (Nat.le_of_ble_eq_true rfl) (Nat.le_of_ble_eq_true rfl) (Nat.le_of_ble_eq_true rfl) (Nat.le_of_ble_eq_true rfl)
set_option maxHeartbeats 4000000 in
set_option maxRecDepth 100000 in
theorem mXX0_needVolume_0 {l : Launch} (hl9 : l.stackTraces = false) {K : KX} {σ : XS} {o : (Nat × XS)} (hf : fXX0_needVolume_0 (kn K) σ = some o) : gx_Mv l (kD K) vwCl (tyX K) (wX K) yX0_needVolume wsX0_needVolume rXX0_needVolume_0 [.ref (ka K 0)] σ o := by
  refine gx_body (cc := cX0_needVolume) (maxL := 1) (yret := none) (by decide +kernel) rfl ?_ (Nat.le_of_ble_eq_true rfl)
  intro p e s m below meth c A F hT hZ hW ls hl
  exact wXX0_needVolume_0_0 F hl9 hT hZ σ o hf s.heap [] ls hl hW
abbrev rXX0_items_0 : Room := { frames := 7, cells := 1, slots := 6, locals := 111 }
set_option maxHeartbeats 4000000 in
set_option maxRecDepth 100000 in
theorem wXX0_items_0_0 {p : Program} {l : Launch} {e : Env} {s : State} {m : MethodId} {args : Array Value} {below : List Frame} {meth : Method} {c : Code} {A : Nat → Prop} {K : KX} (F : fx_ p s m args meth c cX0_items 1 (some .int) RX0 wsX0_items) (hl9 : l.stackTraces = false) (hT : ∀ x ∈ c.exceptionTable.toList, False) (hZ : xz_ A s) (σ : XS) (o : (Nat × Int32 × XS)) (hf : fXX0_items_0_0 (kn K) σ = some o) (H : Heap) (locs : List Loc) (ls : Array Slot) (hl : lv_has ls 1 [(0, .ref (ka K 0))]) (hW : gw_ (kD K) vwCl (tyX K) (wX K) A s σ H locs) : W p l e rXX0_items_0 s m args below meth c H locs 0 0 (gx_Q o.1 (MQ below (gw_Qi (kD K) vwCl (tyX K) (wX K) A o.2) args s rXX0_items_0.cells rXX0_items_0.slots A) (gx_T below (kD K) vwCl (tyX K) (wX K) A o.1 o.2.2 s rXX0_items_0.cells rXX0_items_0.slots)) (F0 m 0 ls []) := by
  have hx := F.1
  have hb := F.2.1
  have hml := F.2.2.2.1
  have hown := F.2.2.2.2.1
  have hts := F.2.2.2.2.2.1
  have hG : ∀ x ∈ gT, x.before args s = true := fun x h => hts x (List.mem_cons_of_mem _ h)
  unfold fXX0_items_0_0 at hf
  refine lv_aload_n hx hb dX0_items_0 rfl (lv_at hl 0 rfl) ?_
  obtain ⟨o1, h2, hf⟩ := gw_bind hf
  refine gx_Vv (As := []) (mc' := 1) (ms' := 6) F hT hZ hW (mXX0_needVolume_0 hl9 h2) (cwV 0 hts (gT_V q_5_66 q_5_68 qp_28 q_1_1 q_5_69) rfl rfl rfl hdX0_needVolume ⟨Nat.le_of_ble_eq_true rfl, Nat.le_of_ble_eq_true rfl⟩) 0 0 (aX_0 K σ) rfl rfl hl.1 rfl (Nat.le_of_ble_eq_true rfl) dX0_items_1 ⟨Nat.le_of_ble_eq_true rfl, Nat.le_of_ble_eq_true rfl⟩ rfl rfl (Nat.le_of_ble_eq_true rfl) (Nat.le_of_ble_eq_true rfl) (fun c4 => by replace hf := (if_neg c4).symm.trans hf; cases hf; exact ⟨rfl, rfl⟩) (fun c4 H locs hW => ?_)
  replace hf := (if_pos c4).symm.trans hf
  refine lv_aload_n hx hb dX0_items_4 rfl (lv_at hl 0 rfl) ?_
  refine gw_get (v := .ref (ka K 7)) F inc_X0 hW 0 0 5 (aX_0 K o1.2) rfl (by decide) (hG _ q_1_228) (fun _ h9 => h9) rfl dX0_items_5 ?_
  refine lv_aload_n hx hb dX0_items_8 rfl (lv_at hl 0 rfl) ?_
  refine gw_get (v := .int (o1.2.1 1)) F inc_X0 hW 0 0 10 (aX_0 K o1.2) rfl (by decide) (hG _ q_1_233) (fun _ h9 => h9) rfl dX0_items_9 ?_
  obtain ⟨o5, h6, hf⟩ := gw_bind hf
  refine gw_Vv (As := [.int (o1.2.1 1)]) (mc' := 1) (ms' := 6) F hW (mXX5_read_7 h6) (cwV 1 hts (gT_V q_5_86 q_2_150 q_2_151 q_1_7 q_2_152) rfl rfl rfl hdX5_read ⟨Nat.le_of_ble_eq_true rfl, Nat.le_of_ble_eq_true rfl⟩) 7 5 (aX_7 K o1.2) rfl rfl hl.1 rfl (Nat.le_of_ble_eq_true rfl) dX0_items_12 ⟨Nat.le_of_ble_eq_true rfl, Nat.le_of_ble_eq_true rfl⟩ rfl rfl (fun H locs hW => ?_)
  refine lv_aload_n hx hb dX0_items_15 rfl (lv_at hl 0 rfl) ?_
  refine gw_get (v := .ref (ka K 7)) F inc_X0 hW 0 0 5 (aX_0 K o5) rfl (by decide) (hG _ q_1_228) (fun _ h9 => h9) rfl dX0_items_16 ?_
  obtain ⟨o8, h9, hf⟩ := gw_bind hf
  refine gw_Vi (As := []) (mc' := 1) (ms' := 6) F hW (mXX5_itemCount_7 h9) (cwV 0 hts (gT_V q_5_87 q_5_88 q_5_89 q_1_7 q_5_90) rfl rfl rfl hdX5_itemCount ⟨Nat.le_of_ble_eq_true rfl, Nat.le_of_ble_eq_true rfl⟩) 7 5 (aX_7 K o5) rfl rfl hl.1 rfl (Nat.le_of_ble_eq_true rfl) dX0_items_19 ⟨Nat.le_of_ble_eq_true rfl, Nat.le_of_ble_eq_true rfl⟩ rfl rfl (fun H locs hW => ?_)
  refine W.widen (k := rXX0_items_0.cells) (n := rXX0_items_0.slots) (Nat.le_of_ble_eq_true rfl) (Nat.le_of_ble_eq_true rfl) ?_
  cases hf
  exact gx_ret0 rfl (gw_reti F hW rfl dX0_items_22)
set_option maxHeartbeats 4000000 in
set_option maxRecDepth 100000 in
theorem mXX0_items_0 {l : Launch} (hl9 : l.stackTraces = false) {K : KX} {σ : XS} {o : (Nat × Int32 × XS)} (hf : fXX0_items_0 (kn K) σ = some o) : gx_Mi l (kD K) vwCl (tyX K) (wX K) yX0_items wsX0_items rXX0_items_0 [.ref (ka K 0)] σ o := by
  refine gx_body (cc := cX0_items) (maxL := 1) (yret := some .int) (by decide +kernel) rfl ?_ (Nat.le_of_ble_eq_true rfl)
  intro p e s m below meth c A F hT hZ hW ls hl
  exact wXX0_items_0_0 F hl9 hT hZ σ o hf s.heap [] ls hl hW
abbrev rXX0_itemHere_0 : Room := { frames := 7, cells := 2, slots := 12, locals := 111 }
set_option maxHeartbeats 4000000 in
set_option maxRecDepth 100000 in
theorem wXX0_itemHere_0_0 {p : Program} {l : Launch} {e : Env} {s : State} {m : MethodId} {args : Array Value} {below : List Frame} {meth : Method} {c : Code} {A : Nat → Prop} {K : KX} (F : fx_ p s m args meth c cX0_itemHere 3 (some .int) RX0 wsX0_itemHere) (hl9 : l.stackTraces = false) (hT : ∀ x ∈ c.exceptionTable.toList, False) (hZ : xz_ A s) (x1 : Int32) (σ : XS) (o : (Nat × Int32 × XS)) (hf : fXX0_itemHere_0_0 (kn K) x1 σ = some o) (H : Heap) (locs : List Loc) (ls : Array Slot) (hl : lv_has ls 3 [(0, .ref (ka K 0)), (1, .int x1)]) (hW : gw_ (kD K) vwCl (tyX K) (wX K) A s σ H locs) : W p l e rXX0_itemHere_0 s m args below meth c H locs 0 0 (gx_Q o.1 (MQ below (gw_Qi (kD K) vwCl (tyX K) (wX K) A o.2) args s rXX0_itemHere_0.cells rXX0_itemHere_0.slots A) (gx_T below (kD K) vwCl (tyX K) (wX K) A o.1 o.2.2 s rXX0_itemHere_0.cells rXX0_itemHere_0.slots)) (F0 m 0 ls []) := by
  have hx := F.1
  have hb := F.2.1
  have hml := F.2.2.2.1
  have hown := F.2.2.2.2.1
  have hts := F.2.2.2.2.2.1
  have hG : ∀ x ∈ gT, x.before args s = true := fun x h => hts x (List.mem_cons_of_mem _ h)
  unfold fXX0_itemHere_0_0 at hf
  refine lv_aload_n hx hb dX0_itemHere_0 rfl (lv_at hl 0 rfl) ?_
  obtain ⟨o1, h2, hf⟩ := gw_bind hf
  refine gx_Vv (As := []) (mc' := 1) (ms' := 6) F hT hZ hW (mXX0_needVolume_0 hl9 h2) (cwV 0 hts (gT_V q_5_66 q_5_68 qp_28 q_1_1 q_5_69) rfl rfl rfl hdX0_needVolume ⟨Nat.le_of_ble_eq_true rfl, Nat.le_of_ble_eq_true rfl⟩) 0 0 (aX_0 K σ) rfl rfl hl.1 rfl (Nat.le_of_ble_eq_true rfl) dX0_itemHere_1 ⟨Nat.le_of_ble_eq_true rfl, Nat.le_of_ble_eq_true rfl⟩ rfl rfl (Nat.le_of_ble_eq_true rfl) (Nat.le_of_ble_eq_true rfl) (fun c4 => by replace hf := (if_neg c4).symm.trans hf; cases hf; exact ⟨rfl, rfl⟩) (fun c4 H locs hW => ?_)
  replace hf := (if_pos c4).symm.trans hf
  refine lv_aload_n hx hb dX0_itemHere_4 rfl (lv_at hl 0 rfl) ?_
  refine gw_get (v := .ref (ka K 7)) F inc_X0 hW 0 0 5 (aX_0 K o1.2) rfl (by decide) (hG _ q_1_228) (fun _ h9 => h9) rfl dX0_itemHere_5 ?_
  refine lv_aload_n hx hb dX0_itemHere_8 rfl (lv_at hl 0 rfl) ?_
  refine gw_get (v := .int (o1.2.1 1)) F inc_X0 hW 0 0 10 (aX_0 K o1.2) rfl (by decide) (hG _ q_1_233) (fun _ h9 => h9) rfl dX0_itemHere_9 ?_
  obtain ⟨o5, h6, hf⟩ := gw_bind hf
  refine gw_Vv (As := [.int (o1.2.1 1)]) (mc' := 1) (ms' := 6) F hW (mXX5_read_7 h6) (cwV 1 hts (gT_V q_5_86 q_2_150 q_2_151 q_1_7 q_2_152) rfl rfl rfl hdX5_read ⟨Nat.le_of_ble_eq_true rfl, Nat.le_of_ble_eq_true rfl⟩) 7 5 (aX_7 K o1.2) rfl rfl hl.1 rfl (Nat.le_of_ble_eq_true rfl) dX0_itemHere_12 ⟨Nat.le_of_ble_eq_true rfl, Nat.le_of_ble_eq_true rfl⟩ rfl rfl (fun H locs hW => ?_)
  refine lv_aload_n hx hb dX0_itemHere_15 rfl (lv_at hl 0 rfl) ?_
  refine gw_get (v := .ref (ka K 7)) F inc_X0 hW 0 0 5 (aX_0 K o5) rfl (by decide) (hG _ q_1_228) (fun _ h9 => h9) rfl dX0_itemHere_16 ?_
  refine lv_iload_n hx hb dX0_itemHere_19 rfl (lv_at hl 1 rfl) ?_
  obtain ⟨o8, h9, hf⟩ := gw_bind hf
  refine gw_Vi (As := [.int x1]) (mc' := 1) (ms' := 6) F hW (mXX5_placeOf_7 h9) (cwV 1 hts (gT_V q_5_103 q_5_104 q_5_105 q_1_7 q_5_106) rfl rfl rfl hdX5_placeOf ⟨Nat.le_of_ble_eq_true rfl, Nat.le_of_ble_eq_true rfl⟩) 7 5 (aX_7 K o5) rfl rfl hl.1 rfl (Nat.le_of_ble_eq_true rfl) dX0_itemHere_20 ⟨Nat.le_of_ble_eq_true rfl, Nat.le_of_ble_eq_true rfl⟩ rfl rfl (fun H locs hW => ?_)
  refine lv_istore_n (lv' := [(2, .int o8.1), (0, .ref (ka K 0)), (1, .int x1)]) hx hb dX0_itemHere_23 rfl hl (by decide) rfl (fun ls hl => ?_)
  refine lv_iload_n hx hb dX0_itemHere_24 rfl (lv_at hl 0 rfl) ?_
  refine lv_iconst (v := (-1 : Int32)) hx hb dX0_itemHere_25 (by decide) ?_
  refine lv_icmp_ne (tgt := 40) hx hb dX0_itemHere_26 (by decide) (fun c11 => ?_) (fun c11 => ?_)
  · replace hf := (if_neg c11).symm.trans hf
    refine lv_iload_n hx hb dX0_itemHere_40 rfl (lv_at hl 0 rfl) ?_
    refine W.widen (k := rXX0_itemHere_0.cells) (n := rXX0_itemHere_0.slots) (Nat.le_of_ble_eq_true rfl) (Nat.le_of_ble_eq_true rfl) ?_
    cases hf
    exact gx_ret0 rfl (gw_reti F hW rfl dX0_itemHere_41)
  · replace hf := (if_pos c11).symm.trans hf
    cases hf
    exact gx_throw (k := 2) (text := "there is no such item here") F hl9 hT hZ hG hW (by decide) rfl (by decide +kernel) q_5_107 q_1_27 q_5_108 (List.mem_of_getElem? (i := 10) rfl) ow_2_295 hl.1 dX0_itemHere_29 dX0_itemHere_32 (Or.inr ⟨rfl, rfl⟩) dX0_itemHere_33 dX0_itemHere_36 dX0_itemHere_39 (Nat.le_of_ble_eq_true rfl) (Nat.le_of_ble_eq_true rfl) (Nat.le_of_ble_eq_true rfl) (Nat.le_of_ble_eq_true rfl) (Nat.le_of_ble_eq_true rfl) (Nat.le_of_ble_eq_true rfl)
set_option maxHeartbeats 4000000 in
set_option maxRecDepth 100000 in
theorem mXX0_itemHere_0 {l : Launch} (hl9 : l.stackTraces = false) {K : KX} {σ : XS} {x1 : Int32} {o : (Nat × Int32 × XS)} (hf : fXX0_itemHere_0 (kn K) x1 σ = some o) : gx_Mi l (kD K) vwCl (tyX K) (wX K) yX0_itemHere wsX0_itemHere rXX0_itemHere_0 [.ref (ka K 0), .int x1] σ o := by
  refine gx_body (cc := cX0_itemHere) (maxL := 3) (yret := some .int) (by decide +kernel) rfl ?_ (Nat.le_of_ble_eq_true rfl)
  intro p e s m below meth c A F hT hZ hW ls hl
  exact wXX0_itemHere_0_0 F hl9 hT hZ x1 σ o hf s.heap [] ls hl hW
abbrev rXX0_letter_0 : Room := { frames := 8, cells := 2, slots := 12, locals := 133 }
set_option maxHeartbeats 4000000 in
set_option maxRecDepth 100000 in
theorem wXX0_letter_0_0 {p : Program} {l : Launch} {e : Env} {s : State} {m : MethodId} {args : Array Value} {below : List Frame} {meth : Method} {c : Code} {A : Nat → Prop} {K : KX} (F : fx_ p s m args meth c cX0_letter 3 (some .int) RX0 wsX0_letter) (hl9 : l.stackTraces = false) (hT : ∀ x ∈ c.exceptionTable.toList, False) (hZ : xz_ A s) (x1 : Int32) (x2 : Int32) (σ : XS) (o : (Nat × Int32 × XS)) (hf : fXX0_letter_0_0 (kn K) x1 x2 σ = some o) (H : Heap) (locs : List Loc) (ls : Array Slot) (hl : lv_has ls 3 [(0, .ref (ka K 0)), (1, .int x1), (2, .int x2)]) (hW : gw_ (kD K) vwCl (tyX K) (wX K) A s σ H locs) : W p l e rXX0_letter_0 s m args below meth c H locs 0 0 (gx_Q o.1 (MQ below (gw_Qi (kD K) vwCl (tyX K) (wX K) A o.2) args s rXX0_letter_0.cells rXX0_letter_0.slots A) (gx_T below (kD K) vwCl (tyX K) (wX K) A o.1 o.2.2 s rXX0_letter_0.cells rXX0_letter_0.slots)) (F0 m 0 ls []) := by
  have hx := F.1
  have hb := F.2.1
  have hml := F.2.2.2.1
  have hown := F.2.2.2.2.1
  have hts := F.2.2.2.2.2.1
  have hG : ∀ x ∈ gT, x.before args s = true := fun x h => hts x (List.mem_cons_of_mem _ h)
  unfold fXX0_letter_0_0 at hf
  refine lv_aload_n hx hb dX0_letter_0 rfl (lv_at hl 0 rfl) ?_
  refine gw_get (v := .ref (ka K 7)) F inc_X0 hW 0 0 5 (aX_0 K σ) rfl (by decide) (hG _ q_1_228) (fun _ h9 => h9) rfl dX0_letter_1 ?_
  refine lv_aload_n hx hb dX0_letter_4 rfl (lv_at hl 0 rfl) ?_
  refine lv_iload_n hx hb dX0_letter_5 rfl (lv_at hl 1 rfl) ?_
  obtain ⟨o1, h2, hf⟩ := gw_bind hf
  refine gx_Vi (As := [.int x1]) (mc' := 2) (ms' := 12) F hT hZ hW (mXX0_itemHere_0 hl9 h2) (cwV 1 hts (gT_V q_5_99 q_5_101 qp_29 q_1_1 q_5_102) rfl rfl rfl hdX0_itemHere ⟨Nat.le_of_ble_eq_true rfl, Nat.le_of_ble_eq_true rfl⟩) 0 0 (aX_0 K σ) rfl rfl hl.1 rfl (Nat.le_of_ble_eq_true rfl) dX0_letter_6 ⟨Nat.le_of_ble_eq_true rfl, Nat.le_of_ble_eq_true rfl⟩ rfl rfl (Nat.le_of_ble_eq_true rfl) (Nat.le_of_ble_eq_true rfl) (fun c4 => by replace hf := (if_neg c4).symm.trans hf; cases hf; exact ⟨rfl, rfl⟩) (fun c4 H locs hW => ?_)
  replace hf := (if_pos c4).symm.trans hf
  refine lv_iload_n hx hb dX0_letter_9 rfl (lv_at hl 2 rfl) ?_
  obtain ⟨o5, h6, hf⟩ := gw_bind hf
  refine gw_Vi (As := [.int o1.2.1, .int x2]) (mc' := 2) (ms' := 12) F hW (mXX5_letterOf_7 h6) (cwV 2 hts (gT_V q_5_120 q_2_211 q_2_212 q_1_7 q_2_213) rfl rfl rfl hdX5_letterOf ⟨Nat.le_of_ble_eq_true rfl, Nat.le_of_ble_eq_true rfl⟩) 7 5 (aX_7 K o1.2.2) rfl rfl hl.1 rfl (Nat.le_of_ble_eq_true rfl) dX0_letter_10 ⟨Nat.le_of_ble_eq_true rfl, Nat.le_of_ble_eq_true rfl⟩ rfl rfl (fun H locs hW => ?_)
  refine W.widen (k := rXX0_letter_0.cells) (n := rXX0_letter_0.slots) (Nat.le_of_ble_eq_true rfl) (Nat.le_of_ble_eq_true rfl) ?_
  cases hf
  exact gx_ret0 rfl (gw_reti F hW rfl dX0_letter_13)
set_option maxHeartbeats 4000000 in
set_option maxRecDepth 100000 in
theorem mXX0_letter_0 {l : Launch} (hl9 : l.stackTraces = false) {K : KX} {σ : XS} {x1 : Int32} {x2 : Int32} {o : (Nat × Int32 × XS)} (hf : fXX0_letter_0 (kn K) x1 x2 σ = some o) : gx_Mi l (kD K) vwCl (tyX K) (wX K) yX0_letter wsX0_letter rXX0_letter_0 [.ref (ka K 0), .int x1, .int x2] σ o := by
  refine gx_body (cc := cX0_letter) (maxL := 3) (yret := some .int) (by decide +kernel) rfl ?_ (Nat.le_of_ble_eq_true rfl)
  intro p e s m below meth c A F hT hZ hW ls hl
  exact wXX0_letter_0_0 F hl9 hT hZ x1 x2 σ o hf s.heap [] ls hl hW
abbrev rXX0_about_0 : Room := { frames := 8, cells := 3, slots := 18, locals := 133 }
set_option maxHeartbeats 4000000 in
set_option maxRecDepth 100000 in
theorem wXX0_about_0_0 {p : Program} {l : Launch} {e : Env} {s : State} {m : MethodId} {args : Array Value} {below : List Frame} {meth : Method} {c : Code} {A : Nat → Prop} {K : KX} (F : fx_ p s m args meth c cX0_about 4 (some .long) RX0 wsX0_about) (hl9 : l.stackTraces = false) (hT : ∀ x ∈ c.exceptionTable.toList, False) (hZ : xz_ A s) (x1 : Int32) (x2 : Int32) (σ : XS) (o : (Nat × Int64 × XS)) (hf : fXX0_about_0_0 (kn K) x1 x2 σ = some o) (H : Heap) (locs : List Loc) (ls : Array Slot) (hl : lv_has ls 4 [(0, .ref (ka K 0)), (1, .int x1), (2, .int x2)]) (hW : gw_ (kD K) vwCl (tyX K) (wX K) A s σ H locs) : W p l e rXX0_about_0 s m args below meth c H locs 0 0 (gx_Q o.1 (MQ below (gw_Ql (kD K) vwCl (tyX K) (wX K) A o.2) args s rXX0_about_0.cells rXX0_about_0.slots A) (gx_T below (kD K) vwCl (tyX K) (wX K) A o.1 o.2.2 s rXX0_about_0.cells rXX0_about_0.slots)) (F0 m 0 ls []) := by
  have hx := F.1
  have hb := F.2.1
  have hml := F.2.2.2.1
  have hown := F.2.2.2.2.1
  have hts := F.2.2.2.2.2.1
  have hG : ∀ x ∈ gT, x.before args s = true := fun x h => hts x (List.mem_cons_of_mem _ h)
  unfold fXX0_about_0_0 at hf
  refine lv_aload_n hx hb dX0_about_0 rfl (lv_at hl 0 rfl) ?_
  refine gw_get (v := .ref (ka K 7)) F inc_X0 hW 0 0 5 (aX_0 K σ) rfl (by decide) (hG _ q_1_228) (fun _ h9 => h9) rfl dX0_about_1 ?_
  refine lv_aload_n hx hb dX0_about_4 rfl (lv_at hl 0 rfl) ?_
  refine lv_iload_n hx hb dX0_about_5 rfl (lv_at hl 1 rfl) ?_
  obtain ⟨o1, h2, hf⟩ := gw_bind hf
  refine gx_Vi (As := [.int x1]) (mc' := 2) (ms' := 12) F hT hZ hW (mXX0_itemHere_0 hl9 h2) (cwV 1 hts (gT_V q_5_99 q_5_101 qp_29 q_1_1 q_5_102) rfl rfl rfl hdX0_itemHere ⟨Nat.le_of_ble_eq_true rfl, Nat.le_of_ble_eq_true rfl⟩) 0 0 (aX_0 K σ) rfl rfl hl.1 rfl (Nat.le_of_ble_eq_true rfl) dX0_about_6 ⟨Nat.le_of_ble_eq_true rfl, Nat.le_of_ble_eq_true rfl⟩ rfl rfl (Nat.le_of_ble_eq_true rfl) (Nat.le_of_ble_eq_true rfl) (fun c4 => by replace hf := (if_neg c4).symm.trans hf; cases hf; exact ⟨rfl, rfl⟩) (fun c4 H locs hW => ?_)
  replace hf := (if_pos c4).symm.trans hf
  obtain ⟨o5, h6, hf⟩ := gw_bind hf
  refine gw_Vi (As := [.int o1.2.1]) (mc' := 2) (ms' := 12) F hW (mXX5_inodeOf_7 h6) (cwV 1 hts (gT_V q_5_128 q_2_193 q_2_194 q_1_7 q_2_195) rfl rfl rfl hdX5_inodeOf ⟨Nat.le_of_ble_eq_true rfl, Nat.le_of_ble_eq_true rfl⟩) 7 5 (aX_7 K o1.2.2) rfl rfl hl.1 rfl (Nat.le_of_ble_eq_true rfl) dX0_about_9 ⟨Nat.le_of_ble_eq_true rfl, Nat.le_of_ble_eq_true rfl⟩ rfl rfl (fun H locs hW => ?_)
  refine lv_istore_n (lv' := [(3, .int o5.1), (0, .ref (ka K 0)), (1, .int x1), (2, .int x2)]) hx hb dX0_about_12 rfl hl (by decide) rfl (fun ls hl => ?_)
  refine lv_iload_n hx hb dX0_about_13 rfl (lv_at hl 3 rfl) ?_
  rcases Decidable.em (x2 = (0 : Int32)) with c8 | c8
  · replace hf := (if_pos c8).symm.trans hf
    refine lv_tableIn (tgt := 56) hx hb dX0_about_14 (by rw [c8]; decide) (by rw [c8]; decide) (by rw [c8]; rfl) (by decide) ?_
    refine lv_iload_n hx hb dX0_about_56 rfl (lv_at hl 0 rfl) ?_
    refine lv_i2l (v := o5.1.toInt64) hx hb dX0_about_57 rfl ?_
    refine W.widen (k := rXX0_about_0.cells) (n := rXX0_about_0.slots) (Nat.le_of_ble_eq_true rfl) (Nat.le_of_ble_eq_true rfl) ?_
    cases hf
    exact gx_ret0 rfl (gw_retl F hW rfl dX0_about_58)
  replace hf := (if_neg c8).symm.trans hf
  rcases Decidable.em (x2 = (1 : Int32)) with c9 | c9
  · replace hf := (if_pos c9).symm.trans hf
    refine lv_tableIn (tgt := 59) hx hb dX0_about_14 (by rw [c9]; decide) (by rw [c9]; decide) (by rw [c9]; rfl) (by decide) ?_
    refine lv_aload_n hx hb dX0_about_59 rfl (lv_at hl 1 rfl) ?_
    refine gw_get (v := .ref (ka K 6)) F inc_X0 hW 0 0 4 (aX_0 K o5.2) rfl (by decide) (hG _ q_1_227) (fun _ h9 => h9) rfl dX0_about_60 ?_
    refine lv_iload_n hx hb dX0_about_63 rfl (lv_at hl 0 rfl) ?_
    obtain ⟨o10, h11, hf⟩ := gw_bind hf
    refine gw_Vz (As := [.int o5.1]) (mc' := 2) (ms' := 12) F hW (mXX4_isDirectory_6 h11) (cwV 1 hts (gT_V q_5_129 q_2_144 q_2_145 q_1_6 q_2_146) rfl rfl rfl hdX4_isDirectory ⟨Nat.le_of_ble_eq_true rfl, Nat.le_of_ble_eq_true rfl⟩) 6 4 (aX_6 K o5.2) rfl rfl hl.1 rfl (Nat.le_of_ble_eq_true rfl) dX0_about_64 ⟨Nat.le_of_ble_eq_true rfl, Nat.le_of_ble_eq_true rfl⟩ rfl rfl (fun H locs z12 hW => ?_)
    refine lv_if_eq (tgt := 74) hx hb dX0_about_67 (by decide) (fun c13 => ?_) (fun c13 => ?_)
    · replace hf := (if_pos c13).symm.trans hf
      refine lv_lconst (v := (0 : Int64)) hx hb dX0_about_74 (by decide) ?_
      refine W.widen (k := rXX0_about_0.cells) (n := rXX0_about_0.slots) (Nat.le_of_ble_eq_true rfl) (Nat.le_of_ble_eq_true rfl) ?_
      cases hf
      exact gx_ret0 rfl (gw_retl F hW rfl dX0_about_75)
    · replace hf := (if_neg c13).symm.trans hf
      refine lv_lconst (v := (1 : Int64)) hx hb dX0_about_70 (by decide) ?_
      refine lv_goto (tgt := 75) hx hb dX0_about_71 (by decide) ?_
      refine W.widen (k := rXX0_about_0.cells) (n := rXX0_about_0.slots) (Nat.le_of_ble_eq_true rfl) (Nat.le_of_ble_eq_true rfl) ?_
      cases hf
      exact gx_ret0 rfl (gw_retl F hW rfl dX0_about_75)
  replace hf := (if_neg c9).symm.trans hf
  rcases Decidable.em (x2 = (2 : Int32)) with c14 | c14
  · replace hf := (if_pos c14).symm.trans hf
    refine lv_tableIn (tgt := 76) hx hb dX0_about_14 (by rw [c14]; decide) (by rw [c14]; decide) (by rw [c14]; rfl) (by decide) ?_
    refine lv_aload_n hx hb dX0_about_76 rfl (lv_at hl 1 rfl) ?_
    refine gw_get (v := .ref (ka K 6)) F inc_X0 hW 0 0 4 (aX_0 K o5.2) rfl (by decide) (hG _ q_1_227) (fun _ h9 => h9) rfl dX0_about_77 ?_
    refine lv_iload_n hx hb dX0_about_80 rfl (lv_at hl 0 rfl) ?_
    obtain ⟨o15, h16, hf⟩ := gw_bind hf
    refine gw_Vi (As := [.int o5.1]) (mc' := 2) (ms' := 12) F hW (mXX4_size_6 h16) (cwV 1 hts (gT_V q_5_130 q_2_154 q_2_155 q_1_6 q_2_156) rfl rfl rfl hdX4_size ⟨Nat.le_of_ble_eq_true rfl, Nat.le_of_ble_eq_true rfl⟩) 6 4 (aX_6 K o5.2) rfl rfl hl.1 rfl (Nat.le_of_ble_eq_true rfl) dX0_about_81 ⟨Nat.le_of_ble_eq_true rfl, Nat.le_of_ble_eq_true rfl⟩ rfl rfl (fun H locs hW => ?_)
    refine lv_i2l (v := o15.1.toInt64) hx hb dX0_about_84 rfl ?_
    refine W.widen (k := rXX0_about_0.cells) (n := rXX0_about_0.slots) (Nat.le_of_ble_eq_true rfl) (Nat.le_of_ble_eq_true rfl) ?_
    cases hf
    exact gx_ret0 rfl (gw_retl F hW rfl dX0_about_85)
  replace hf := (if_neg c14).symm.trans hf
  rcases Decidable.em (x2 = (3 : Int32)) with c18 | c18
  · replace hf := (if_pos c18).symm.trans hf
    refine lv_tableIn (tgt := 86) hx hb dX0_about_14 (by rw [c18]; decide) (by rw [c18]; decide) (by rw [c18]; rfl) (by decide) ?_
    refine lv_aload_n hx hb dX0_about_86 rfl (lv_at hl 1 rfl) ?_
    refine gw_get (v := .ref (ka K 6)) F inc_X0 hW 0 0 4 (aX_0 K o5.2) rfl (by decide) (hG _ q_1_227) (fun _ h9 => h9) rfl dX0_about_87 ?_
    refine lv_iload_n hx hb dX0_about_90 rfl (lv_at hl 0 rfl) ?_
    obtain ⟨o19, h20, hf⟩ := gw_bind hf
    refine gw_Vi (As := [.int o5.1]) (mc' := 2) (ms' := 12) F hW (mXX4_links_6 h20) (cwV 1 hts (gT_V q_5_131 q_2_236 q_2_237 q_1_6 q_2_238) rfl rfl rfl hdX4_links ⟨Nat.le_of_ble_eq_true rfl, Nat.le_of_ble_eq_true rfl⟩) 6 4 (aX_6 K o5.2) rfl rfl hl.1 rfl (Nat.le_of_ble_eq_true rfl) dX0_about_91 ⟨Nat.le_of_ble_eq_true rfl, Nat.le_of_ble_eq_true rfl⟩ rfl rfl (fun H locs hW => ?_)
    refine lv_i2l (v := o19.1.toInt64) hx hb dX0_about_94 rfl ?_
    refine W.widen (k := rXX0_about_0.cells) (n := rXX0_about_0.slots) (Nat.le_of_ble_eq_true rfl) (Nat.le_of_ble_eq_true rfl) ?_
    cases hf
    exact gx_ret0 rfl (gw_retl F hW rfl dX0_about_95)
  replace hf := (if_neg c18).symm.trans hf
  rcases Decidable.em (x2 = (4 : Int32)) with c22 | c22
  · replace hf := (if_pos c22).symm.trans hf
    refine lv_tableIn (tgt := 96) hx hb dX0_about_14 (by rw [c22]; decide) (by rw [c22]; decide) (by rw [c22]; rfl) (by decide) ?_
    refine lv_aload_n hx hb dX0_about_96 rfl (lv_at hl 1 rfl) ?_
    refine gw_get (v := .ref (ka K 6)) F inc_X0 hW 0 0 4 (aX_0 K o5.2) rfl (by decide) (hG _ q_1_227) (fun _ h9 => h9) rfl dX0_about_97 ?_
    refine lv_iload_n hx hb dX0_about_100 rfl (lv_at hl 0 rfl) ?_
    refine lv_iload_n hx hb dX0_about_101 rfl (lv_at hl 3 rfl) ?_
    refine lv_iconst (v := (4 : Int32)) hx hb dX0_about_102 (by decide) ?_
    refine lv_isub hx hb dX0_about_103 ?_
    obtain ⟨o23, h24, hf⟩ := gw_bind hf
    refine gw_Vl (As := [.int o5.1, .int (x2 - (4 : Int32))]) (mc' := 2) (ms' := 12) F hW (mXX4_time_6 h24) (cwV 2 hts (gT_V q_5_132 q_5_133 q_5_134 q_1_6 q_5_135) rfl rfl rfl hdX4_time ⟨Nat.le_of_ble_eq_true rfl, Nat.le_of_ble_eq_true rfl⟩) 6 4 (aX_6 K o5.2) rfl rfl hl.1 rfl (Nat.le_of_ble_eq_true rfl) dX0_about_104 ⟨Nat.le_of_ble_eq_true rfl, Nat.le_of_ble_eq_true rfl⟩ rfl rfl (fun H locs hW => ?_)
    refine W.widen (k := rXX0_about_0.cells) (n := rXX0_about_0.slots) (Nat.le_of_ble_eq_true rfl) (Nat.le_of_ble_eq_true rfl) ?_
    cases hf
    exact gx_ret0 rfl (gw_retl F hW rfl dX0_about_107)
  replace hf := (if_neg c22).symm.trans hf
  rcases Decidable.em (x2 = (5 : Int32)) with c26 | c26
  · replace hf := (if_pos c26).symm.trans hf
    refine lv_tableIn (tgt := 96) hx hb dX0_about_14 (by rw [c26]; decide) (by rw [c26]; decide) (by rw [c26]; rfl) (by decide) ?_
    refine lv_aload_n hx hb dX0_about_96 rfl (lv_at hl 1 rfl) ?_
    refine gw_get (v := .ref (ka K 6)) F inc_X0 hW 0 0 4 (aX_0 K o5.2) rfl (by decide) (hG _ q_1_227) (fun _ h9 => h9) rfl dX0_about_97 ?_
    refine lv_iload_n hx hb dX0_about_100 rfl (lv_at hl 0 rfl) ?_
    refine lv_iload_n hx hb dX0_about_101 rfl (lv_at hl 3 rfl) ?_
    refine lv_iconst (v := (4 : Int32)) hx hb dX0_about_102 (by decide) ?_
    refine lv_isub hx hb dX0_about_103 ?_
    obtain ⟨o27, h28, hf⟩ := gw_bind hf
    refine gw_Vl (As := [.int o5.1, .int (x2 - (4 : Int32))]) (mc' := 2) (ms' := 12) F hW (mXX4_time_6 h28) (cwV 2 hts (gT_V q_5_132 q_5_133 q_5_134 q_1_6 q_5_135) rfl rfl rfl hdX4_time ⟨Nat.le_of_ble_eq_true rfl, Nat.le_of_ble_eq_true rfl⟩) 6 4 (aX_6 K o5.2) rfl rfl hl.1 rfl (Nat.le_of_ble_eq_true rfl) dX0_about_104 ⟨Nat.le_of_ble_eq_true rfl, Nat.le_of_ble_eq_true rfl⟩ rfl rfl (fun H locs hW => ?_)
    refine W.widen (k := rXX0_about_0.cells) (n := rXX0_about_0.slots) (Nat.le_of_ble_eq_true rfl) (Nat.le_of_ble_eq_true rfl) ?_
    cases hf
    exact gx_ret0 rfl (gw_retl F hW rfl dX0_about_107)
  replace hf := (if_neg c26).symm.trans hf
  rcases Decidable.em (x2 = (6 : Int32)) with c30 | c30
  · replace hf := (if_pos c30).symm.trans hf
    refine lv_tableIn (tgt := 96) hx hb dX0_about_14 (by rw [c30]; decide) (by rw [c30]; decide) (by rw [c30]; rfl) (by decide) ?_
    refine lv_aload_n hx hb dX0_about_96 rfl (lv_at hl 1 rfl) ?_
    refine gw_get (v := .ref (ka K 6)) F inc_X0 hW 0 0 4 (aX_0 K o5.2) rfl (by decide) (hG _ q_1_227) (fun _ h9 => h9) rfl dX0_about_97 ?_
    refine lv_iload_n hx hb dX0_about_100 rfl (lv_at hl 0 rfl) ?_
    refine lv_iload_n hx hb dX0_about_101 rfl (lv_at hl 3 rfl) ?_
    refine lv_iconst (v := (4 : Int32)) hx hb dX0_about_102 (by decide) ?_
    refine lv_isub hx hb dX0_about_103 ?_
    obtain ⟨o31, h32, hf⟩ := gw_bind hf
    refine gw_Vl (As := [.int o5.1, .int (x2 - (4 : Int32))]) (mc' := 2) (ms' := 12) F hW (mXX4_time_6 h32) (cwV 2 hts (gT_V q_5_132 q_5_133 q_5_134 q_1_6 q_5_135) rfl rfl rfl hdX4_time ⟨Nat.le_of_ble_eq_true rfl, Nat.le_of_ble_eq_true rfl⟩) 6 4 (aX_6 K o5.2) rfl rfl hl.1 rfl (Nat.le_of_ble_eq_true rfl) dX0_about_104 ⟨Nat.le_of_ble_eq_true rfl, Nat.le_of_ble_eq_true rfl⟩ rfl rfl (fun H locs hW => ?_)
    refine W.widen (k := rXX0_about_0.cells) (n := rXX0_about_0.slots) (Nat.le_of_ble_eq_true rfl) (Nat.le_of_ble_eq_true rfl) ?_
    cases hf
    exact gx_ret0 rfl (gw_retl F hW rfl dX0_about_107)
  replace hf := (if_neg c30).symm.trans hf
  refine lv_tableOut (tgt := 108) hx hb dX0_about_14 (gw_out0_6 c8 c9 c14 c18 c22 c26 c30) (by decide) ?_
  cases hf
  exact gx_throw (k := 3) (text := "there is nothing such to tell") F hl9 hT hZ hG hW (by decide) rfl (by decide +kernel) q_4_206 q_1_18 q_3_52 (List.mem_of_getElem? (i := 1) rfl) ow_3_109 hl.1 dX0_about_108 dX0_about_111 (Or.inl ⟨rfl, rfl⟩) dX0_about_112 dX0_about_114 dX0_about_117 (Nat.le_of_ble_eq_true rfl) (Nat.le_of_ble_eq_true rfl) (Nat.le_of_ble_eq_true rfl) (Nat.le_of_ble_eq_true rfl) (Nat.le_of_ble_eq_true rfl) (Nat.le_of_ble_eq_true rfl)
set_option maxHeartbeats 4000000 in
set_option maxRecDepth 100000 in
theorem mXX0_about_0 {l : Launch} (hl9 : l.stackTraces = false) {K : KX} {σ : XS} {x1 : Int32} {x2 : Int32} {o : (Nat × Int64 × XS)} (hf : fXX0_about_0 (kn K) x1 x2 σ = some o) : gx_Ml l (kD K) vwCl (tyX K) (wX K) yX0_about wsX0_about rXX0_about_0 [.ref (ka K 0), .int x1, .int x2] σ o := by
  refine gx_body (cc := cX0_about) (maxL := 4) (yret := some .long) (by decide +kernel) rfl ?_ (Nat.le_of_ble_eq_true rfl)
  intro p e s m below meth c A F hT hZ hW ls hl
  exact wXX0_about_0_0 F hl9 hT hZ x1 x2 σ o hf s.heap [] ls hl hW
abbrev rXX0_content_0 : Room := { frames := 8, cells := 2, slots := 12, locals := 133 }
set_option maxHeartbeats 4000000 in
set_option maxRecDepth 100000 in
theorem wXX0_content_0_0 {p : Program} {l : Launch} {e : Env} {s : State} {m : MethodId} {args : Array Value} {below : List Frame} {meth : Method} {c : Code} {A : Nat → Prop} {K : KX} (F : fx_ p s m args meth c cX0_content 4 (some .int) RX0 wsX0_content) (hl9 : l.stackTraces = false) (hT : ∀ x ∈ c.exceptionTable.toList, False) (hZ : xz_ A s) (x1 : Int32) (x2 : Int32) (σ : XS) (o : (Nat × Int32 × XS)) (hf : fXX0_content_0_0 (kn K) x1 x2 σ = some o) (H : Heap) (locs : List Loc) (ls : Array Slot) (hl : lv_has ls 4 [(0, .ref (ka K 0)), (1, .int x1), (2, .int x2)]) (hW : gw_ (kD K) vwCl (tyX K) (wX K) A s σ H locs) : W p l e rXX0_content_0 s m args below meth c H locs 0 0 (gx_Q o.1 (MQ below (gw_Qi (kD K) vwCl (tyX K) (wX K) A o.2) args s rXX0_content_0.cells rXX0_content_0.slots A) (gx_T below (kD K) vwCl (tyX K) (wX K) A o.1 o.2.2 s rXX0_content_0.cells rXX0_content_0.slots)) (F0 m 0 ls []) := by
  have hx := F.1
  have hb := F.2.1
  have hml := F.2.2.2.1
  have hown := F.2.2.2.2.1
  have hts := F.2.2.2.2.2.1
  have hG : ∀ x ∈ gT, x.before args s = true := fun x h => hts x (List.mem_cons_of_mem _ h)
  unfold fXX0_content_0_0 at hf
  refine lv_aload_n hx hb dX0_content_0 rfl (lv_at hl 0 rfl) ?_
  refine gw_get (v := .ref (ka K 7)) F inc_X0 hW 0 0 5 (aX_0 K σ) rfl (by decide) (hG _ q_1_228) (fun _ h9 => h9) rfl dX0_content_1 ?_
  refine lv_aload_n hx hb dX0_content_4 rfl (lv_at hl 0 rfl) ?_
  refine lv_iload_n hx hb dX0_content_5 rfl (lv_at hl 1 rfl) ?_
  obtain ⟨o1, h2, hf⟩ := gw_bind hf
  refine gx_Vi (As := [.int x1]) (mc' := 2) (ms' := 12) F hT hZ hW (mXX0_itemHere_0 hl9 h2) (cwV 1 hts (gT_V q_5_99 q_5_101 qp_29 q_1_1 q_5_102) rfl rfl rfl hdX0_itemHere ⟨Nat.le_of_ble_eq_true rfl, Nat.le_of_ble_eq_true rfl⟩) 0 0 (aX_0 K σ) rfl rfl hl.1 rfl (Nat.le_of_ble_eq_true rfl) dX0_content_6 ⟨Nat.le_of_ble_eq_true rfl, Nat.le_of_ble_eq_true rfl⟩ rfl rfl (Nat.le_of_ble_eq_true rfl) (Nat.le_of_ble_eq_true rfl) (fun c4 => by replace hf := (if_neg c4).symm.trans hf; cases hf; exact ⟨rfl, rfl⟩) (fun c4 H locs hW => ?_)
  replace hf := (if_pos c4).symm.trans hf
  obtain ⟨o5, h6, hf⟩ := gw_bind hf
  refine gw_Vi (As := [.int o1.2.1]) (mc' := 2) (ms' := 12) F hW (mXX5_inodeOf_7 h6) (cwV 1 hts (gT_V q_5_128 q_2_193 q_2_194 q_1_7 q_2_195) rfl rfl rfl hdX5_inodeOf ⟨Nat.le_of_ble_eq_true rfl, Nat.le_of_ble_eq_true rfl⟩) 7 5 (aX_7 K o1.2.2) rfl rfl hl.1 rfl (Nat.le_of_ble_eq_true rfl) dX0_content_9 ⟨Nat.le_of_ble_eq_true rfl, Nat.le_of_ble_eq_true rfl⟩ rfl rfl (fun H locs hW => ?_)
  refine lv_istore_n (lv' := [(3, .int o5.1), (0, .ref (ka K 0)), (1, .int x1), (2, .int x2)]) hx hb dX0_content_12 rfl hl (by decide) rfl (fun ls hl => ?_)
  refine lv_aload_n hx hb dX0_content_13 rfl (lv_at hl 1 rfl) ?_
  refine gw_get (v := .ref (ka K 6)) F inc_X0 hW 0 0 4 (aX_0 K o5.2) rfl (by decide) (hG _ q_1_227) (fun _ h9 => h9) rfl dX0_content_14 ?_
  refine lv_iload_n hx hb dX0_content_17 rfl (lv_at hl 0 rfl) ?_
  obtain ⟨o8, h9, hf⟩ := gw_bind hf
  refine gw_Vz (As := [.int o5.1]) (mc' := 2) (ms' := 12) F hW (mXX4_isDirectory_6 h9) (cwV 1 hts (gT_V q_5_129 q_2_144 q_2_145 q_1_6 q_2_146) rfl rfl rfl hdX4_isDirectory ⟨Nat.le_of_ble_eq_true rfl, Nat.le_of_ble_eq_true rfl⟩) 6 4 (aX_6 K o5.2) rfl rfl hl.1 rfl (Nat.le_of_ble_eq_true rfl) dX0_content_18 ⟨Nat.le_of_ble_eq_true rfl, Nat.le_of_ble_eq_true rfl⟩ rfl rfl (fun H locs z10 hW => ?_)
  refine lv_if_ne (tgt := 40) hx hb dX0_content_21 (by decide) (fun c11 => ?_) (fun c11 => ?_)
  · replace hf := (if_neg c11).symm.trans hf
    refine lv_iconst (v := (-1 : Int32)) hx hb dX0_content_40 (by decide) ?_
    refine W.widen (k := rXX0_content_0.cells) (n := rXX0_content_0.slots) (Nat.le_of_ble_eq_true rfl) (Nat.le_of_ble_eq_true rfl) ?_
    cases hf
    exact gx_ret0 rfl (gw_reti F hW rfl dX0_content_41)
  · replace hf := (if_pos c11).symm.trans hf
    refine lv_iload_n hx hb dX0_content_24 rfl (lv_at hl 3 rfl) ?_
    refine lv_if_lt (tgt := 40) hx hb dX0_content_25 (by decide) (fun c12 => ?_) (fun c12 => ?_)
    · replace hf := (if_pos c12).symm.trans hf
      refine lv_iconst (v := (-1 : Int32)) hx hb dX0_content_40 (by decide) ?_
      refine W.widen (k := rXX0_content_0.cells) (n := rXX0_content_0.slots) (Nat.le_of_ble_eq_true rfl) (Nat.le_of_ble_eq_true rfl) ?_
      cases hf
      exact gx_ret0 rfl (gw_reti F hW rfl dX0_content_41)
    · replace hf := (if_neg c12).symm.trans hf
      refine lv_iload_n hx hb dX0_content_28 rfl (lv_at hl 3 rfl) ?_
      refine lv_aload_n hx hb dX0_content_29 rfl (lv_at hl 1 rfl) ?_
      refine gw_get (v := .ref (ka K 6)) F inc_X0 hW 0 0 4 (aX_0 K o8.2) rfl (by decide) (hG _ q_1_227) (fun _ h9 => h9) rfl dX0_content_30 ?_
      refine lv_iload_n hx hb dX0_content_33 rfl (lv_at hl 0 rfl) ?_
      obtain ⟨o13, h14, hf⟩ := gw_bind hf
      refine gw_Vi (As := [.int o5.1]) (mc' := 2) (ms' := 12) F hW (mXX4_size_6 h14) (cwV 1 hts (gT_V q_5_130 q_2_154 q_2_155 q_1_6 q_2_156) rfl rfl rfl hdX4_size ⟨Nat.le_of_ble_eq_true rfl, Nat.le_of_ble_eq_true rfl⟩) 6 4 (aX_6 K o8.2) rfl rfl hl.1 rfl (Nat.le_of_ble_eq_true rfl) dX0_content_34 ⟨Nat.le_of_ble_eq_true rfl, Nat.le_of_ble_eq_true rfl⟩ rfl rfl (fun H locs hW => ?_)
      refine lv_icmp_lt (tgt := 42) hx hb dX0_content_37 (by decide) (fun c16 => ?_) (fun c16 => ?_)
      · replace hf := (if_pos c16).symm.trans hf
        refine lv_aload_n hx hb dX0_content_42 rfl (lv_at hl 1 rfl) ?_
        refine gw_get (v := .ref (ka K 1)) F inc_X0 hW 0 0 0 (aX_0 K o13.2) rfl (by decide) (hG _ q_1_223) (fun _ h9 => h9) rfl dX0_content_43 ?_
        refine lv_aload_n hx hb dX0_content_46 rfl (lv_at hl 1 rfl) ?_
        refine gw_get (v := .ref (ka K 6)) F inc_X0 hW 0 0 4 (aX_0 K o13.2) rfl (by decide) (hG _ q_1_227) (fun _ h9 => h9) rfl dX0_content_47 ?_
        refine lv_iload_n hx hb dX0_content_50 rfl (lv_at hl 0 rfl) ?_
        refine lv_iload_n hx hb dX0_content_51 rfl (lv_at hl 3 rfl) ?_
        refine lv_sipush (v := (1024 : Int32)) hx hb dX0_content_52 (by decide) ?_
        refine lv_idiv hx hb dX0_content_55 (by decide) ?_
        obtain ⟨o17, h18, hf⟩ := gw_bind hf
        refine gw_Vi (As := [.int o5.1, .int (x2 / (1024 : Int32))]) (mc' := 2) (ms' := 12) F hW (mXX4_blockOf_6 h18) (cwV 2 hts (gT_V q_5_145 q_2_161 q_2_162 q_1_6 q_2_163) rfl rfl rfl hdX4_blockOf ⟨Nat.le_of_ble_eq_true rfl, Nat.le_of_ble_eq_true rfl⟩) 6 4 (aX_6 K o13.2) rfl rfl hl.1 rfl (Nat.le_of_ble_eq_true rfl) dX0_content_56 ⟨Nat.le_of_ble_eq_true rfl, Nat.le_of_ble_eq_true rfl⟩ rfl rfl (fun H locs hW => ?_)
        refine lv_sipush (v := (1024 : Int32)) hx hb dX0_content_59 (by decide) ?_
        refine lv_imul hx hb dX0_content_62 ?_
        refine lv_iload_n hx hb dX0_content_63 rfl (lv_at hl 3 rfl) ?_
        refine lv_sipush (v := (1024 : Int32)) hx hb dX0_content_64 (by decide) ?_
        refine lv_irem hx hb dX0_content_67 (by decide) ?_
        refine lv_iadd hx hb dX0_content_68 ?_
        obtain ⟨o20, h21, hf⟩ := gw_bind hf
        refine gw_Vi (As := [.int ((o17.1 * (1024 : Int32)) + (x2 - x2 / (1024 : Int32) * (1024 : Int32)))]) (mc' := 2) (ms' := 12) F hW (mXX1_get_1 h21) (cwV 1 hts (gT_V q_2_59 q_2_56 q_2_57 q_1_3 q_2_58) rfl rfl rfl hdX1_get ⟨Nat.le_of_ble_eq_true rfl, Nat.le_of_ble_eq_true rfl⟩) 1 1 (aX_1 K o17.2) rfl rfl hl.1 rfl (Nat.le_of_ble_eq_true rfl) dX0_content_69 ⟨Nat.le_of_ble_eq_true rfl, Nat.le_of_ble_eq_true rfl⟩ rfl rfl (fun H locs hW => ?_)
        refine W.widen (k := rXX0_content_0.cells) (n := rXX0_content_0.slots) (Nat.le_of_ble_eq_true rfl) (Nat.le_of_ble_eq_true rfl) ?_
        cases hf
        exact gx_ret0 rfl (gw_reti F hW rfl dX0_content_72)
      · replace hf := (if_neg c16).symm.trans hf
        refine lv_iconst (v := (-1 : Int32)) hx hb dX0_content_40 (by decide) ?_
        refine W.widen (k := rXX0_content_0.cells) (n := rXX0_content_0.slots) (Nat.le_of_ble_eq_true rfl) (Nat.le_of_ble_eq_true rfl) ?_
        cases hf
        exact gx_ret0 rfl (gw_reti F hW rfl dX0_content_41)
set_option maxHeartbeats 4000000 in
set_option maxRecDepth 100000 in
theorem mXX0_content_0 {l : Launch} (hl9 : l.stackTraces = false) {K : KX} {σ : XS} {x1 : Int32} {x2 : Int32} {o : (Nat × Int32 × XS)} (hf : fXX0_content_0 (kn K) x1 x2 σ = some o) : gx_Mi l (kD K) vwCl (tyX K) (wX K) yX0_content wsX0_content rXX0_content_0 [.ref (ka K 0), .int x1, .int x2] σ o := by
  refine gx_body (cc := cX0_content) (maxL := 4) (yret := some .int) (by decide +kernel) rfl ?_ (Nat.le_of_ble_eq_true rfl)
  intro p e s m below meth c A F hT hZ hW ls hl
  exact wXX0_content_0_0 F hl9 hT hZ x1 x2 σ o hf s.heap [] ls hl hW
abbrev rXX0_enter_0 : Room := { frames := 8, cells := 3, slots := 18, locals := 133 }
set_option maxHeartbeats 4000000 in
set_option maxRecDepth 100000 in
theorem wXX0_enter_0_0 {p : Program} {l : Launch} {e : Env} {s : State} {m : MethodId} {args : Array Value} {below : List Frame} {meth : Method} {c : Code} {A : Nat → Prop} {K : KX} (F : fx_ p s m args meth c cX0_enter 3 (some .int) RX0 wsX0_enter) (hl9 : l.stackTraces = false) (hT : ∀ x ∈ c.exceptionTable.toList, False) (hZ : xz_ A s) (x1 : Int32) (σ : XS) (o : (Nat × Int32 × XS)) (hf : fXX0_enter_0_0 (kn K) x1 σ = some o) (H : Heap) (locs : List Loc) (ls : Array Slot) (hl : lv_has ls 3 [(0, .ref (ka K 0)), (1, .int x1)]) (hW : gw_ (kD K) vwCl (tyX K) (wX K) A s σ H locs) : W p l e rXX0_enter_0 s m args below meth c H locs 0 0 (gx_Q o.1 (MQ below (gw_Qi (kD K) vwCl (tyX K) (wX K) A o.2) args s rXX0_enter_0.cells rXX0_enter_0.slots A) (gx_T below (kD K) vwCl (tyX K) (wX K) A o.1 o.2.2 s rXX0_enter_0.cells rXX0_enter_0.slots)) (F0 m 0 ls []) := by
  have hx := F.1
  have hb := F.2.1
  have hml := F.2.2.2.1
  have hown := F.2.2.2.2.1
  have hts := F.2.2.2.2.2.1
  have hG : ∀ x ∈ gT, x.before args s = true := fun x h => hts x (List.mem_cons_of_mem _ h)
  unfold fXX0_enter_0_0 at hf
  refine lv_aload_n hx hb dX0_enter_0 rfl (lv_at hl 0 rfl) ?_
  refine gw_get (v := .ref (ka K 7)) F inc_X0 hW 0 0 5 (aX_0 K σ) rfl (by decide) (hG _ q_1_228) (fun _ h9 => h9) rfl dX0_enter_1 ?_
  refine lv_aload_n hx hb dX0_enter_4 rfl (lv_at hl 0 rfl) ?_
  refine lv_iload_n hx hb dX0_enter_5 rfl (lv_at hl 1 rfl) ?_
  obtain ⟨o1, h2, hf⟩ := gw_bind hf
  refine gx_Vi (As := [.int x1]) (mc' := 2) (ms' := 12) F hT hZ hW (mXX0_itemHere_0 hl9 h2) (cwV 1 hts (gT_V q_5_99 q_5_101 qp_29 q_1_1 q_5_102) rfl rfl rfl hdX0_itemHere ⟨Nat.le_of_ble_eq_true rfl, Nat.le_of_ble_eq_true rfl⟩) 0 0 (aX_0 K σ) rfl rfl hl.1 rfl (Nat.le_of_ble_eq_true rfl) dX0_enter_6 ⟨Nat.le_of_ble_eq_true rfl, Nat.le_of_ble_eq_true rfl⟩ rfl rfl (Nat.le_of_ble_eq_true rfl) (Nat.le_of_ble_eq_true rfl) (fun c4 => by replace hf := (if_neg c4).symm.trans hf; cases hf; exact ⟨rfl, rfl⟩) (fun c4 H locs hW => ?_)
  replace hf := (if_pos c4).symm.trans hf
  obtain ⟨o5, h6, hf⟩ := gw_bind hf
  refine gw_Vi (As := [.int o1.2.1]) (mc' := 2) (ms' := 12) F hW (mXX5_inodeOf_7 h6) (cwV 1 hts (gT_V q_5_128 q_2_193 q_2_194 q_1_7 q_2_195) rfl rfl rfl hdX5_inodeOf ⟨Nat.le_of_ble_eq_true rfl, Nat.le_of_ble_eq_true rfl⟩) 7 5 (aX_7 K o1.2.2) rfl rfl hl.1 rfl (Nat.le_of_ble_eq_true rfl) dX0_enter_9 ⟨Nat.le_of_ble_eq_true rfl, Nat.le_of_ble_eq_true rfl⟩ rfl rfl (fun H locs hW => ?_)
  refine lv_istore_n (lv' := [(2, .int o5.1), (0, .ref (ka K 0)), (1, .int x1)]) hx hb dX0_enter_12 rfl hl (by decide) rfl (fun ls hl => ?_)
  refine lv_aload_n hx hb dX0_enter_13 rfl (lv_at hl 1 rfl) ?_
  refine gw_get (v := .ref (ka K 6)) F inc_X0 hW 0 0 4 (aX_0 K o5.2) rfl (by decide) (hG _ q_1_227) (fun _ h9 => h9) rfl dX0_enter_14 ?_
  refine lv_iload_n hx hb dX0_enter_17 rfl (lv_at hl 0 rfl) ?_
  obtain ⟨o8, h9, hf⟩ := gw_bind hf
  refine gw_Vz (As := [.int o5.1]) (mc' := 2) (ms' := 12) F hW (mXX4_isDirectory_6 h9) (cwV 1 hts (gT_V q_5_129 q_2_144 q_2_145 q_1_6 q_2_146) rfl rfl rfl hdX4_isDirectory ⟨Nat.le_of_ble_eq_true rfl, Nat.le_of_ble_eq_true rfl⟩) 6 4 (aX_6 K o5.2) rfl rfl hl.1 rfl (Nat.le_of_ble_eq_true rfl) dX0_enter_18 ⟨Nat.le_of_ble_eq_true rfl, Nat.le_of_ble_eq_true rfl⟩ rfl rfl (fun H locs z10 hW => ?_)
  refine lv_if_ne (tgt := 34) hx hb dX0_enter_21 (by decide) (fun c11 => ?_) (fun c11 => ?_)
  · replace hf := (if_neg c11).symm.trans hf
    refine lv_aload_n hx hb dX0_enter_34 rfl (lv_at hl 1 rfl) ?_
    refine lv_iload_n hx hb dX0_enter_35 rfl (lv_at hl 0 rfl) ?_
    refine gw_put (σ' := (stS o8.2 1 o5.1)) (ty := .int) F inc_X0 tyX0 tyX0_ok nmX0 hW 0 0 10 (aX_0 K o8.2) rfl (by decide) (hG _ q_1_233) (fun _ h9 => h9) rfl (by decide +kernel) rfl rfl (Nat.le_of_ble_eq_true rfl) dX0_enter_36 (sSX_1 _ _ _) (fun H locs hW => ?_)
    refine lv_aload_n hx hb dX0_enter_39 rfl (lv_at hl 1 rfl) ?_
    refine gw_get (v := .ref (ka K 7)) F inc_X0 hW 0 0 5 (aX_0 K (stS o8.2 1 o5.1)) rfl (by decide) (hG _ q_1_228) (fun _ h9 => h9) rfl dX0_enter_40 ?_
    refine lv_aload_n hx hb dX0_enter_43 rfl (lv_at hl 1 rfl) ?_
    refine gw_get (v := .int o5.1) F inc_X0 hW 0 0 10 (aX_0 K (stS o8.2 1 o5.1)) rfl (by decide) (hG _ q_1_233) (fun _ h9 => h9) rfl dX0_enter_44 ?_
    obtain ⟨o12, h13, hf⟩ := gw_bind hf
    refine gw_Vv (As := [.int o5.1]) (mc' := 2) (ms' := 12) F hW (mXX5_read_7 h13) (cwV 1 hts (gT_V q_5_86 q_2_150 q_2_151 q_1_7 q_2_152) rfl rfl rfl hdX5_read ⟨Nat.le_of_ble_eq_true rfl, Nat.le_of_ble_eq_true rfl⟩) 7 5 (aX_7 K (stS o8.2 1 o5.1)) rfl rfl hl.1 rfl (Nat.le_of_ble_eq_true rfl) dX0_enter_47 ⟨Nat.le_of_ble_eq_true rfl, Nat.le_of_ble_eq_true rfl⟩ rfl rfl (fun H locs hW => ?_)
    refine lv_aload_n hx hb dX0_enter_50 rfl (lv_at hl 1 rfl) ?_
    refine gw_get (v := .ref (ka K 7)) F inc_X0 hW 0 0 5 (aX_0 K o12) rfl (by decide) (hG _ q_1_228) (fun _ h9 => h9) rfl dX0_enter_51 ?_
    obtain ⟨o15, h16, hf⟩ := gw_bind hf
    refine gw_Vi (As := []) (mc' := 2) (ms' := 12) F hW (mXX5_itemCount_7 h16) (cwV 0 hts (gT_V q_5_87 q_5_88 q_5_89 q_1_7 q_5_90) rfl rfl rfl hdX5_itemCount ⟨Nat.le_of_ble_eq_true rfl, Nat.le_of_ble_eq_true rfl⟩) 7 5 (aX_7 K o12) rfl rfl hl.1 rfl (Nat.le_of_ble_eq_true rfl) dX0_enter_54 ⟨Nat.le_of_ble_eq_true rfl, Nat.le_of_ble_eq_true rfl⟩ rfl rfl (fun H locs hW => ?_)
    refine W.widen (k := rXX0_enter_0.cells) (n := rXX0_enter_0.slots) (Nat.le_of_ble_eq_true rfl) (Nat.le_of_ble_eq_true rfl) ?_
    cases hf
    exact gx_ret0 rfl (gw_reti F hW rfl dX0_enter_57)
  · replace hf := (if_pos c11).symm.trans hf
    cases hf
    exact gx_throw (k := 3) (text := "a file can't be entered") F hl9 hT hZ hG hW (by decide) rfl (by decide +kernel) q_4_206 q_1_18 q_3_52 (List.mem_of_getElem? (i := 2) rfl) ow_3_109 hl.1 dX0_enter_24 dX0_enter_27 (Or.inl ⟨rfl, rfl⟩) dX0_enter_28 dX0_enter_30 dX0_enter_33 (Nat.le_of_ble_eq_true rfl) (Nat.le_of_ble_eq_true rfl) (Nat.le_of_ble_eq_true rfl) (Nat.le_of_ble_eq_true rfl) (Nat.le_of_ble_eq_true rfl) (Nat.le_of_ble_eq_true rfl)
set_option maxHeartbeats 4000000 in
set_option maxRecDepth 100000 in
theorem mXX0_enter_0 {l : Launch} (hl9 : l.stackTraces = false) {K : KX} {σ : XS} {x1 : Int32} {o : (Nat × Int32 × XS)} (hf : fXX0_enter_0 (kn K) x1 σ = some o) : gx_Mi l (kD K) vwCl (tyX K) (wX K) yX0_enter wsX0_enter rXX0_enter_0 [.ref (ka K 0), .int x1] σ o := by
  refine gx_body (cc := cX0_enter) (maxL := 3) (yret := some .int) (by decide +kernel) rfl ?_ (Nat.le_of_ble_eq_true rfl)
  intro p e s m below meth c A F hT hZ hW ls hl
  exact wXX0_enter_0_0 F hl9 hT hZ x1 σ o hf s.heap [] ls hl hW
abbrev rXX0_up_0 : Room := { frames := 7, cells := 1, slots := 6, locals := 111 }
set_option maxHeartbeats 4000000 in
set_option maxRecDepth 100000 in
theorem wXX0_up_0_0 {p : Program} {l : Launch} {e : Env} {s : State} {m : MethodId} {args : Array Value} {below : List Frame} {meth : Method} {c : Code} {A : Nat → Prop} {K : KX} (F : fx_ p s m args meth c cX0_up 1 (some .boolean) RX0 wsX0_up) (hl9 : l.stackTraces = false) (hT : ∀ x ∈ c.exceptionTable.toList, False) (hZ : xz_ A s) (σ : XS) (o : (Nat × Int32 × XS)) (hf : fXX0_up_0_0 (kn K) σ = some o) (H : Heap) (locs : List Loc) (ls : Array Slot) (hl : lv_has ls 1 [(0, .ref (ka K 0))]) (hW : gw_ (kD K) vwCl (tyX K) (wX K) A s σ H locs) : W p l e rXX0_up_0 s m args below meth c H locs 0 0 (gx_Q o.1 (MQ below (va_Qi (fun r u => (r = o.2.1 ∧ u = o.2.2) ∧ (o.2.1 = 0 ∨ o.2.1 = 1)) (gw_B (kD K) vwCl (tyX K) (wX K) A) A) args s rXX0_up_0.cells rXX0_up_0.slots A) (gx_T below (kD K) vwCl (tyX K) (wX K) A o.1 o.2.2 s rXX0_up_0.cells rXX0_up_0.slots)) (F0 m 0 ls []) := by
  have hx := F.1
  have hb := F.2.1
  have hml := F.2.2.2.1
  have hown := F.2.2.2.2.1
  have hts := F.2.2.2.2.2.1
  have hG : ∀ x ∈ gT, x.before args s = true := fun x h => hts x (List.mem_cons_of_mem _ h)
  unfold fXX0_up_0_0 at hf
  refine lv_aload_n hx hb dX0_up_0 rfl (lv_at hl 0 rfl) ?_
  obtain ⟨o1, h2, hf⟩ := gw_bind hf
  refine gx_Vv (As := []) (mc' := 1) (ms' := 6) F hT hZ hW (mXX0_needVolume_0 hl9 h2) (cwV 0 hts (gT_V q_5_66 q_5_68 qp_28 q_1_1 q_5_69) rfl rfl rfl hdX0_needVolume ⟨Nat.le_of_ble_eq_true rfl, Nat.le_of_ble_eq_true rfl⟩) 0 0 (aX_0 K σ) rfl rfl hl.1 rfl (Nat.le_of_ble_eq_true rfl) dX0_up_1 ⟨Nat.le_of_ble_eq_true rfl, Nat.le_of_ble_eq_true rfl⟩ rfl rfl (Nat.le_of_ble_eq_true rfl) (Nat.le_of_ble_eq_true rfl) (fun c4 => by replace hf := (if_neg c4).symm.trans hf; cases hf; exact ⟨rfl, rfl⟩) (fun c4 H locs hW => ?_)
  replace hf := (if_pos c4).symm.trans hf
  refine lv_aload_n hx hb dX0_up_4 rfl (lv_at hl 0 rfl) ?_
  refine gw_get (v := .int (o1.2.1 1)) F inc_X0 hW 0 0 10 (aX_0 K o1.2) rfl (by decide) (hG _ q_1_233) (fun _ h9 => h9) rfl dX0_up_5 ?_
  refine lv_iconst (v := (2 : Int32)) hx hb dX0_up_8 (by decide) ?_
  refine lv_icmp_ne (tgt := 14) hx hb dX0_up_9 (by decide) (fun c5 => ?_) (fun c5 => ?_)
  · replace hf := (if_neg c5).symm.trans hf
    refine lv_aload_n hx hb dX0_up_14 rfl (lv_at hl 0 rfl) ?_
    refine gw_get (v := .ref (ka K 7)) F inc_X0 hW 0 0 5 (aX_0 K o1.2) rfl (by decide) (hG _ q_1_228) (fun _ h9 => h9) rfl dX0_up_15 ?_
    refine lv_aload_n hx hb dX0_up_18 rfl (lv_at hl 0 rfl) ?_
    refine gw_get (v := .int (o1.2.1 1)) F inc_X0 hW 0 0 10 (aX_0 K o1.2) rfl (by decide) (hG _ q_1_233) (fun _ h9 => h9) rfl dX0_up_19 ?_
    obtain ⟨o6, h7, hf⟩ := gw_bind hf
    refine gw_Vv (As := [.int (o1.2.1 1)]) (mc' := 1) (ms' := 6) F hW (mXX5_read_7 h7) (cwV 1 hts (gT_V q_5_86 q_2_150 q_2_151 q_1_7 q_2_152) rfl rfl rfl hdX5_read ⟨Nat.le_of_ble_eq_true rfl, Nat.le_of_ble_eq_true rfl⟩) 7 5 (aX_7 K o1.2) rfl rfl hl.1 rfl (Nat.le_of_ble_eq_true rfl) dX0_up_22 ⟨Nat.le_of_ble_eq_true rfl, Nat.le_of_ble_eq_true rfl⟩ rfl rfl (fun H locs hW => ?_)
    refine lv_aload_n hx hb dX0_up_25 rfl (lv_at hl 0 rfl) ?_
    refine lv_aload_n hx hb dX0_up_26 rfl (lv_at hl 0 rfl) ?_
    refine gw_get (v := .ref (ka K 7)) F inc_X0 hW 0 0 5 (aX_0 K o6) rfl (by decide) (hG _ q_1_228) (fun _ h9 => h9) rfl dX0_up_27 ?_
    obtain ⟨o9, h10, hf⟩ := gw_bind hf
    refine gw_Vi (As := []) (mc' := 1) (ms' := 6) F hW (mXX5_parent_7 h10) (cwV 0 hts (gT_V q_5_161 q_2_215 q_2_216 q_1_7 q_2_217) rfl rfl rfl hdX5_parent ⟨Nat.le_of_ble_eq_true rfl, Nat.le_of_ble_eq_true rfl⟩) 7 5 (aX_7 K o6) rfl rfl hl.1 rfl (Nat.le_of_ble_eq_true rfl) dX0_up_30 ⟨Nat.le_of_ble_eq_true rfl, Nat.le_of_ble_eq_true rfl⟩ rfl rfl (fun H locs hW => ?_)
    refine gw_put (σ' := (stS o9.2 1 o9.1)) (ty := .int) F inc_X0 tyX0 tyX0_ok nmX0 hW 0 0 10 (aX_0 K o9.2) rfl (by decide) (hG _ q_1_233) (fun _ h9 => h9) rfl (by decide +kernel) rfl rfl (Nat.le_of_ble_eq_true rfl) dX0_up_33 (sSX_1 _ _ _) (fun H locs hW => ?_)
    refine lv_iconst (v := (1 : Int32)) hx hb dX0_up_36 (by decide) ?_
    refine W.widen (k := rXX0_up_0.cells) (n := rXX0_up_0.slots) (Nat.le_of_ble_eq_true rfl) (Nat.le_of_ble_eq_true rfl) ?_
    cases hf
    exact gx_ret0 rfl (gw_retz F hW rfl (Or.inr rfl) dX0_up_37)
  · replace hf := (if_pos c5).symm.trans hf
    refine lv_iconst (v := (0 : Int32)) hx hb dX0_up_12 (by decide) ?_
    refine W.widen (k := rXX0_up_0.cells) (n := rXX0_up_0.slots) (Nat.le_of_ble_eq_true rfl) (Nat.le_of_ble_eq_true rfl) ?_
    cases hf
    exact gx_ret0 rfl (gw_retz F hW rfl (Or.inl rfl) dX0_up_13)
set_option maxHeartbeats 4000000 in
set_option maxRecDepth 100000 in
theorem mXX0_up_0 {l : Launch} (hl9 : l.stackTraces = false) {K : KX} {σ : XS} {o : (Nat × Int32 × XS)} (hf : fXX0_up_0 (kn K) σ = some o) : gx_Mz l (kD K) vwCl (tyX K) (wX K) yX0_up wsX0_up rXX0_up_0 [.ref (ka K 0)] σ o := by
  refine gx_body (cc := cX0_up) (maxL := 1) (yret := some .boolean) (by decide +kernel) rfl ?_ (Nat.le_of_ble_eq_true rfl)
  intro p e s m below meth c A F hT hZ hW ls hl
  exact wXX0_up_0_0 F hl9 hT hZ σ o hf s.heap [] ls hl hW
abbrev rXX0_make_0 : Room := { frames := 7, cells := 2, slots := 12, locals := 144 }
set_option maxHeartbeats 4000000 in
set_option maxRecDepth 100000 in
theorem wXX0_make_0_49 {p : Program} {l : Launch} {e : Env} {s : State} {m : MethodId} {args : Array Value} {below : List Frame} {meth : Method} {c : Code} {A : Nat → Prop} {K : KX} (F : fx_ p s m args meth c cX0_make 7 (some .int) RX0 wsX0_make) (hl9 : l.stackTraces = false) (hT : ∀ x ∈ c.exceptionTable.toList, False) (hZ : xz_ A s) (σ : XS) (o : (Nat × Int32 × XS)) (hf : fXX0_make_0_49 (kn K) σ = some o) (H : Heap) (locs : List Loc) (ls : Array Slot) (hl : lv_has ls 7 []) (hW : gw_ (kD K) vwCl (tyX K) (wX K) A s σ H locs) : W p l e rXX0_make_0 s m args below meth c H locs 1 6 (gx_Q o.1 (MQ below (gw_Qi (kD K) vwCl (tyX K) (wX K) A o.2) args s rXX0_make_0.cells rXX0_make_0.slots A) (gx_T below (kD K) vwCl (tyX K) (wX K) A o.1 o.2.2 s rXX0_make_0.cells rXX0_make_0.slots)) (F0 m 49 ls []) := by
  have hx := F.1
  have hb := F.2.1
  have hml := F.2.2.2.1
  have hown := F.2.2.2.2.1
  have hts := F.2.2.2.2.2.1
  have hG : ∀ x ∈ gT, x.before args s = true := fun x h => hts x (List.mem_cons_of_mem _ h)
  unfold fXX0_make_0_49 at hf
  cases hf
  exact gx_throw (k := 3) (text := "the tape is no name for a new item here") F hl9 hT hZ hG hW (by decide) rfl (by decide +kernel) q_4_206 q_1_18 q_3_52 (List.mem_of_getElem? (i := 3) rfl) ow_3_109 hl.1 dX0_make_49 dX0_make_52 (Or.inl ⟨rfl, rfl⟩) dX0_make_53 dX0_make_55 dX0_make_58 (Nat.le_of_ble_eq_true rfl) (Nat.le_of_ble_eq_true rfl) (Nat.le_of_ble_eq_true rfl) (Nat.le_of_ble_eq_true rfl) (Nat.le_of_ble_eq_true rfl) (Nat.le_of_ble_eq_true rfl)
set_option maxHeartbeats 4000000 in
set_option maxRecDepth 100000 in
theorem wXX0_make_0_126 {p : Program} {l : Launch} {e : Env} {s : State} {m : MethodId} {args : Array Value} {below : List Frame} {meth : Method} {c : Code} {A : Nat → Prop} {K : KX} (F : fx_ p s m args meth c cX0_make 7 (some .int) RX0 wsX0_make) (hl9 : l.stackTraces = false) (hT : ∀ x ∈ c.exceptionTable.toList, False) (hZ : xz_ A s) (σ : XS) (o : (Nat × Int32 × XS)) (hf : fXX0_make_0_126 (kn K) σ = some o) (H : Heap) (locs : List Loc) (ls : Array Slot) (hl : lv_has ls 7 []) (hW : gw_ (kD K) vwCl (tyX K) (wX K) A s σ H locs) : W p l e rXX0_make_0 s m args below meth c H locs 1 6 (gx_Q o.1 (MQ below (gw_Qi (kD K) vwCl (tyX K) (wX K) A o.2) args s rXX0_make_0.cells rXX0_make_0.slots A) (gx_T below (kD K) vwCl (tyX K) (wX K) A o.1 o.2.2 s rXX0_make_0.cells rXX0_make_0.slots)) (F0 m 126 ls []) := by
  have hx := F.1
  have hb := F.2.1
  have hml := F.2.2.2.1
  have hown := F.2.2.2.2.1
  have hts := F.2.2.2.2.2.1
  have hG : ∀ x ∈ gT, x.before args s = true := fun x h => hts x (List.mem_cons_of_mem _ h)
  unfold fXX0_make_0_126 at hf
  cases hf
  exact gx_throw (k := 4) (text := "there is no free inode, or too few blocks are free") F hl9 hT hZ hG hW (by decide) rfl (by decide +kernel) q_5_211 q_1_30 q_5_212 (List.mem_of_getElem? (i := 4) rfl) ow_4_228 hl.1 dX0_make_126 dX0_make_129 (Or.inl ⟨rfl, rfl⟩) dX0_make_130 dX0_make_132 dX0_make_135 (Nat.le_of_ble_eq_true rfl) (Nat.le_of_ble_eq_true rfl) (Nat.le_of_ble_eq_true rfl) (Nat.le_of_ble_eq_true rfl) (Nat.le_of_ble_eq_true rfl) (Nat.le_of_ble_eq_true rfl)
set_option maxHeartbeats 4000000 in
set_option maxRecDepth 100000 in
theorem wXX0_make_0_256 {p : Program} {l : Launch} {e : Env} {s : State} {m : MethodId} {args : Array Value} {below : List Frame} {meth : Method} {c : Code} {A : Nat → Prop} {K : KX} (F : fx_ p s m args meth c cX0_make 7 (some .int) RX0 wsX0_make) (hl9 : l.stackTraces = false) (hT : ∀ x ∈ c.exceptionTable.toList, False) (hZ : xz_ A s) (x6 : Int32) (σ : XS) (o : (Nat × Int32 × XS)) (hf : fXX0_make_0_256 (kn K) x6 σ = some o) (H : Heap) (locs : List Loc) (ls : Array Slot) (hl : lv_has ls 7 [(0, .ref (ka K 0)), (6, .int x6)]) (hW : gw_ (kD K) vwCl (tyX K) (wX K) A s σ H locs) : W p l e rXX0_make_0 s m args below meth c H locs 1 6 (gx_Q o.1 (MQ below (gw_Qi (kD K) vwCl (tyX K) (wX K) A o.2) args s rXX0_make_0.cells rXX0_make_0.slots A) (gx_T below (kD K) vwCl (tyX K) (wX K) A o.1 o.2.2 s rXX0_make_0.cells rXX0_make_0.slots)) (F0 m 256 ls []) := by
  have hx := F.1
  have hb := F.2.1
  have hml := F.2.2.2.1
  have hown := F.2.2.2.2.1
  have hts := F.2.2.2.2.2.1
  have hG : ∀ x ∈ gT, x.before args s = true := fun x h => hts x (List.mem_cons_of_mem _ h)
  unfold fXX0_make_0_256 at hf
  refine lv_aload_n hx hb dX0_make_256 rfl (lv_at hl 0 rfl) ?_
  refine gw_get (v := .ref (ka K 7)) F inc_X0 hW 0 0 5 (aX_0 K σ) rfl (by decide) (hG _ q_1_228) (fun _ h9 => h9) rfl dX0_make_257 ?_
  refine lv_aload_n hx hb dX0_make_260 rfl (lv_at hl 0 rfl) ?_
  refine gw_get (v := .int (σ.1 1)) F inc_X0 hW 0 0 10 (aX_0 K σ) rfl (by decide) (hG _ q_1_233) (fun _ h9 => h9) rfl dX0_make_261 ?_
  obtain ⟨o215, h216, hf⟩ := gw_bind hf
  refine gw_Vv (As := [.int (σ.1 1)]) (mc' := 1) (ms' := 6) F hW (mXX5_read_7 h216) (cwV 1 hts (gT_V q_5_86 q_2_150 q_2_151 q_1_7 q_2_152) rfl rfl rfl hdX5_read ⟨Nat.le_of_ble_eq_true rfl, Nat.le_of_ble_eq_true rfl⟩) 7 5 (aX_7 K σ) rfl rfl hl.1 rfl (Nat.le_of_ble_eq_true rfl) dX0_make_264 ⟨Nat.le_of_ble_eq_true rfl, Nat.le_of_ble_eq_true rfl⟩ rfl rfl (fun H locs hW => ?_)
  refine lv_aload_n hx hb dX0_make_267 rfl (lv_at hl 0 rfl) ?_
  refine gw_get (v := .ref (ka K 7)) F inc_X0 hW 0 0 5 (aX_0 K o215) rfl (by decide) (hG _ q_1_228) (fun _ h9 => h9) rfl dX0_make_268 ?_
  refine lv_iload hx hb dX0_make_271 (lv_at hl 1 rfl) ?_
  obtain ⟨o218, h219, hf⟩ := gw_bind hf
  refine gw_Vi (As := [.int x6]) (mc' := 1) (ms' := 6) F hW (mXX5_numberOf_7 h219) (cwV 1 hts (gT_V q_6_4 q_6_5 q_6_6 q_1_7 q_6_7) rfl rfl rfl hdX5_numberOf ⟨Nat.le_of_ble_eq_true rfl, Nat.le_of_ble_eq_true rfl⟩) 7 5 (aX_7 K o215) rfl rfl hl.1 rfl (Nat.le_of_ble_eq_true rfl) dX0_make_273 ⟨Nat.le_of_ble_eq_true rfl, Nat.le_of_ble_eq_true rfl⟩ rfl rfl (fun H locs hW => ?_)
  refine W.widen (k := rXX0_make_0.cells) (n := rXX0_make_0.slots) (Nat.le_of_ble_eq_true rfl) (Nat.le_of_ble_eq_true rfl) ?_
  cases hf
  exact gx_ret0 rfl (gw_reti F hW rfl dX0_make_276)
set_option maxHeartbeats 4000000 in
set_option maxRecDepth 100000 in
theorem wXX0_make_0_179 {p : Program} {l : Launch} {e : Env} {s : State} {m : MethodId} {args : Array Value} {below : List Frame} {meth : Method} {c : Code} {A : Nat → Prop} {K : KX} (F : fx_ p s m args meth c cX0_make 7 (some .int) RX0 wsX0_make) (hl9 : l.stackTraces = false) (hT : ∀ x ∈ c.exceptionTable.toList, False) (hZ : xz_ A s) (x1 : Int32) (x2 : Int32) (x5 : Int32) (y0 : Int32) (σ : XS) (o : (Nat × Int32 × XS)) (hf : fXX0_make_0_179 (kn K) x1 x2 x5 y0 σ = some o) (H : Heap) (locs : List Loc) (ls : Array Slot) (hl : lv_has ls 7 [(0, .ref (ka K 0)), (1, .int x1), (2, .int x2), (5, .int x5)]) (hW : gw_ (kD K) vwCl (tyX K) (wX K) A s σ H locs) : W p l e rXX0_make_0 s m args below meth c H locs 1 6 (gx_Q o.1 (MQ below (gw_Qi (kD K) vwCl (tyX K) (wX K) A o.2) args s rXX0_make_0.cells rXX0_make_0.slots A) (gx_T below (kD K) vwCl (tyX K) (wX K) A o.1 o.2.2 s rXX0_make_0.cells rXX0_make_0.slots)) (F0 m 179 ls [.int y0]) := by
  have hx := F.1
  have hb := F.2.1
  have hml := F.2.2.2.1
  have hown := F.2.2.2.2.1
  have hts := F.2.2.2.2.2.1
  have hG : ∀ x ∈ gT, x.before args s = true := fun x h => hts x (List.mem_cons_of_mem _ h)
  unfold fXX0_make_0_179 at hf
  refine lv_istore (lv' := [(6, .int y0), (0, .ref (ka K 0)), (1, .int x1), (2, .int x2), (5, .int x5)]) hx hb dX0_make_179 hl (by decide) rfl (fun ls hl => ?_)
  refine lv_aload_n hx hb dX0_make_181 rfl (lv_at hl 1 rfl) ?_
  refine gw_get (v := .ref (ka K 7)) F inc_X0 hW 0 0 5 (aX_0 K σ) rfl (by decide) (hG _ q_1_228) (fun _ h9 => h9) rfl dX0_make_182 ?_
  refine lv_iload hx hb dX0_make_185 (lv_at hl 0 rfl) ?_
  refine lv_iload hx hb dX0_make_187 (lv_at hl 4 rfl) ?_
  refine lv_iload_n hx hb dX0_make_189 rfl (lv_at hl 2 rfl) ?_
  refine lv_aload_n hx hb dX0_make_190 rfl (lv_at hl 1 rfl) ?_
  refine gw_get (v := .ref (ka K 16)) F inc_X0 hW 0 0 8 (aX_0 K σ) rfl (by decide) (hG _ q_1_231) (fun _ h9 => h9) rfl dX0_make_191 ?_
  refine lv_iload_n hx hb dX0_make_194 rfl (lv_at hl 3 rfl) ?_
  obtain ⟨o208, h209, hf⟩ := gw_bind hf
  refine gw_Vv (As := [.int y0, .int x5, .int x1, .ref (ka K 16), .int x2]) (mc' := 1) (ms' := 6) F hW (mXX5_fillEntry_7_16 h209) (cwV 5 hts (gT_V q_5_235 q_5_236 q_5_237 q_1_7 q_5_238) rfl rfl rfl hdX5_fillEntry ⟨Nat.le_of_ble_eq_true rfl, Nat.le_of_ble_eq_true rfl⟩) 7 5 (aX_7 K σ) rfl rfl hl.1 rfl (Nat.le_of_ble_eq_true rfl) dX0_make_195 ⟨Nat.le_of_ble_eq_true rfl, Nat.le_of_ble_eq_true rfl⟩ rfl rfl (fun H locs hW => ?_)
  refine lv_aload_n hx hb dX0_make_198 rfl (lv_at hl 1 rfl) ?_
  refine gw_get (v := .ref (ka K 6)) F inc_X0 hW 0 0 4 (aX_0 K o208) rfl (by decide) (hG _ q_1_227) (fun _ h9 => h9) rfl dX0_make_199 ?_
  refine lv_iload hx hb dX0_make_202 (lv_at hl 4 rfl) ?_
  refine lv_iload_n hx hb dX0_make_204 rfl (lv_at hl 2 rfl) ?_
  obtain ⟨o211, h212, hf⟩ := gw_bind hf
  refine gw_Vv (As := [.int x5, .int x1]) (mc' := 1) (ms' := 6) F hW (mXX4_begin_6 h212) (cwV 2 hts (gT_V q_5_7 q_5_8 q_5_9 q_1_6 q_5_10) rfl rfl rfl hdX4_begin ⟨Nat.le_of_ble_eq_true rfl, Nat.le_of_ble_eq_true rfl⟩) 6 4 (aX_6 K o208) rfl rfl hl.1 rfl (Nat.le_of_ble_eq_true rfl) dX0_make_205 ⟨Nat.le_of_ble_eq_true rfl, Nat.le_of_ble_eq_true rfl⟩ rfl rfl (fun H locs hW => ?_)
  refine lv_iload_n hx hb dX0_make_208 rfl (lv_at hl 2 rfl) ?_
  refine lv_if_eq (tgt := 256) hx hb dX0_make_209 (by decide) (fun c214 => ?_) (fun c214 => ?_)
  · replace hf := (if_pos c214).symm.trans hf
    exact wXX0_make_0_256 F hl9 hT hZ y0 _ _ hf _ _ _ (lv_sub hl [1, 0] rfl) hW
  · replace hf := (if_neg c214).symm.trans hf
    refine lv_aload_n hx hb dX0_make_212 rfl (lv_at hl 1 rfl) ?_
    refine gw_get (v := .ref (ka K 6)) F inc_X0 hW 0 0 4 (aX_0 K o211) rfl (by decide) (hG _ q_1_227) (fun _ h9 => h9) rfl dX0_make_213 ?_
    refine lv_iload hx hb dX0_make_216 (lv_at hl 4 rfl) ?_
    refine lv_iconst (v := (1 : Int32)) hx hb dX0_make_218 (by decide) ?_
    obtain ⟨o221, h222, hf⟩ := gw_bind hf
    refine gw_Vv (As := [.int x5, .int (1 : Int32)]) (mc' := 1) (ms' := 6) F hW (mXX4_countDirectories_6 h222) (cwV 2 hts (gT_V q_5_13 q_5_14 q_5_15 q_1_6 q_5_16) rfl rfl rfl hdX4_countDirectories ⟨Nat.le_of_ble_eq_true rfl, Nat.le_of_ble_eq_true rfl⟩) 6 4 (aX_6 K o211) rfl rfl hl.1 rfl (Nat.le_of_ble_eq_true rfl) dX0_make_219 ⟨Nat.le_of_ble_eq_true rfl, Nat.le_of_ble_eq_true rfl⟩ rfl rfl (fun H locs hW => ?_)
    refine lv_aload_n hx hb dX0_make_222 rfl (lv_at hl 1 rfl) ?_
    refine gw_get (v := .ref (ka K 6)) F inc_X0 hW 0 0 4 (aX_0 K o221) rfl (by decide) (hG _ q_1_227) (fun _ h9 => h9) rfl dX0_make_223 ?_
    refine lv_aload_n hx hb dX0_make_226 rfl (lv_at hl 1 rfl) ?_
    refine gw_get (v := .int (o221.1 1)) F inc_X0 hW 0 0 10 (aX_0 K o221) rfl (by decide) (hG _ q_1_233) (fun _ h9 => h9) rfl dX0_make_227 ?_
    refine lv_iconst (v := (1 : Int32)) hx hb dX0_make_230 (by decide) ?_
    obtain ⟨o224, h225, hf⟩ := gw_bind hf
    refine gw_Vv (As := [.int (o221.1 1), .int (1 : Int32)]) (mc' := 1) (ms' := 6) F hW (mXX4_addLinks_6 h225) (cwV 2 hts (gT_V q_6_0 q_6_1 q_6_2 q_1_6 q_6_3) rfl rfl rfl hdX4_addLinks ⟨Nat.le_of_ble_eq_true rfl, Nat.le_of_ble_eq_true rfl⟩) 6 4 (aX_6 K o221) rfl rfl hl.1 rfl (Nat.le_of_ble_eq_true rfl) dX0_make_231 ⟨Nat.le_of_ble_eq_true rfl, Nat.le_of_ble_eq_true rfl⟩ rfl rfl (fun H locs hW => ?_)
    refine lv_aload_n hx hb dX0_make_234 rfl (lv_at hl 1 rfl) ?_
    refine gw_get (v := .ref (ka K 7)) F inc_X0 hW 0 0 5 (aX_0 K o224) rfl (by decide) (hG _ q_1_228) (fun _ h9 => h9) rfl dX0_make_235 ?_
    refine lv_aload_n hx hb dX0_make_238 rfl (lv_at hl 1 rfl) ?_
    refine gw_get (v := .ref (ka K 6)) F inc_X0 hW 0 0 4 (aX_0 K o224) rfl (by decide) (hG _ q_1_227) (fun _ h9 => h9) rfl dX0_make_239 ?_
    refine lv_iload hx hb dX0_make_242 (lv_at hl 4 rfl) ?_
    obtain ⟨o227, h228, hf⟩ := gw_bind hf
    refine gw_Vi (As := [.int x5]) (mc' := 1) (ms' := 6) F hW (mXX4_addDirectoryBlock_6 h228) (cwV 1 hts (gT_V q_5_22 q_5_23 q_5_24 q_1_6 q_5_25) rfl rfl rfl hdX4_addDirectoryBlock ⟨Nat.le_of_ble_eq_true rfl, Nat.le_of_ble_eq_true rfl⟩) 6 4 (aX_6 K o224) rfl rfl hl.1 rfl (Nat.le_of_ble_eq_true rfl) dX0_make_244 ⟨Nat.le_of_ble_eq_true rfl, Nat.le_of_ble_eq_true rfl⟩ rfl rfl (fun H locs hW => ?_)
    refine lv_iload hx hb dX0_make_247 (lv_at hl 4 rfl) ?_
    refine lv_aload_n hx hb dX0_make_249 rfl (lv_at hl 1 rfl) ?_
    refine gw_get (v := .int (o227.2.1 1)) F inc_X0 hW 0 0 10 (aX_0 K o227.2) rfl (by decide) (hG _ q_1_233) (fun _ h9 => h9) rfl dX0_make_250 ?_
    obtain ⟨o230, h231, hf⟩ := gw_bind hf
    refine gw_Vv (As := [.int o227.1, .int x5, .int (o227.2.1 1)]) (mc' := 1) (ms' := 6) F hW (mXX5_layDots_7 h231) (cwV 3 hts (gT_V q_5_51 q_5_52 q_5_53 q_1_7 q_5_54) rfl rfl rfl hdX5_layDots ⟨Nat.le_of_ble_eq_true rfl, Nat.le_of_ble_eq_true rfl⟩) 7 5 (aX_7 K o227.2) rfl rfl hl.1 rfl (Nat.le_of_ble_eq_true rfl) dX0_make_253 ⟨Nat.le_of_ble_eq_true rfl, Nat.le_of_ble_eq_true rfl⟩ rfl rfl (fun H locs hW => ?_)
    exact wXX0_make_0_256 F hl9 hT hZ y0 _ _ hf _ _ _ (lv_sub hl [1, 0] rfl) hW
set_option maxHeartbeats 4000000 in
set_option maxRecDepth 100000 in
theorem wXX0_make_0_103 {p : Program} {l : Launch} {e : Env} {s : State} {m : MethodId} {args : Array Value} {below : List Frame} {meth : Method} {c : Code} {A : Nat → Prop} {K : KX} (F : fx_ p s m args meth c cX0_make 7 (some .int) RX0 wsX0_make) (hl9 : l.stackTraces = false) (hT : ∀ x ∈ c.exceptionTable.toList, False) (hZ : xz_ A s) (x1 : Int32) (x2 : Int32) (x3 : Int32) (x4 : Int32) (σ : XS) (o : (Nat × Int32 × XS)) (hf : fXX0_make_0_103 (kn K) x1 x2 x3 x4 σ = some o) (H : Heap) (locs : List Loc) (ls : Array Slot) (hl : lv_has ls 7 [(0, .ref (ka K 0)), (1, .int x1), (2, .int x2), (3, .int x3), (4, .int x4)]) (hW : gw_ (kD K) vwCl (tyX K) (wX K) A s σ H locs) : W p l e rXX0_make_0 s m args below meth c H locs 1 6 (gx_Q o.1 (MQ below (gw_Qi (kD K) vwCl (tyX K) (wX K) A o.2) args s rXX0_make_0.cells rXX0_make_0.slots A) (gx_T below (kD K) vwCl (tyX K) (wX K) A o.1 o.2.2 s rXX0_make_0.cells rXX0_make_0.slots)) (F0 m 103 ls []) := by
  have hx := F.1
  have hb := F.2.1
  have hml := F.2.2.2.1
  have hown := F.2.2.2.2.1
  have hts := F.2.2.2.2.2.1
  have hG : ∀ x ∈ gT, x.before args s = true := fun x h => hts x (List.mem_cons_of_mem _ h)
  unfold fXX0_make_0_103 at hf
  refine lv_aload_n hx hb dX0_make_103 rfl (lv_at hl 0 rfl) ?_
  refine gw_get (v := .ref (ka K 5)) F inc_X0 hW 0 0 3 (aX_0 K σ) rfl (by decide) (hG _ q_1_226) (fun _ h9 => h9) rfl dX0_make_104 ?_
  obtain ⟨o193, h194, hf⟩ := gw_bind hf
  refine gw_Vi (As := []) (mc' := 1) (ms' := 6) F hW (mXX3_free_5 h194) (cwV 0 hts (gT_V q_4_184 q_4_185 q_4_186 q_1_5 q_4_187) rfl rfl rfl hdX3_free ⟨Nat.le_of_ble_eq_true rfl, Nat.le_of_ble_eq_true rfl⟩) 5 3 (aX_5 K σ) rfl rfl hl.1 rfl (Nat.le_of_ble_eq_true rfl) dX0_make_107 ⟨Nat.le_of_ble_eq_true rfl, Nat.le_of_ble_eq_true rfl⟩ rfl rfl (fun H locs hW => ?_)
  refine lv_iconst (v := (1 : Int32)) hx hb dX0_make_110 (by decide) ?_
  refine lv_icmp_lt (tgt := 126) hx hb dX0_make_111 (by decide) (fun c196 => ?_) (fun c196 => ?_)
  · replace hf := (if_pos c196).symm.trans hf
    exact wXX0_make_0_126 F hl9 hT hZ _ _ hf _ _ _ (lv_sub hl [] rfl) hW
  · replace hf := (if_neg c196).symm.trans hf
    refine lv_aload_n hx hb dX0_make_114 rfl (lv_at hl 0 rfl) ?_
    refine gw_get (v := .ref (ka K 4)) F inc_X0 hW 0 0 2 (aX_0 K o193.2) rfl (by decide) (hG _ q_1_225) (fun _ h9 => h9) rfl dX0_make_115 ?_
    obtain ⟨o197, h198, hf⟩ := gw_bind hf
    refine gw_Vi (As := []) (mc' := 1) (ms' := 6) F hW (mXX3_free_4 h198) (cwV 0 hts (gT_V q_4_184 q_4_185 q_4_186 q_1_5 q_4_187) rfl rfl rfl hdX3_free ⟨Nat.le_of_ble_eq_true rfl, Nat.le_of_ble_eq_true rfl⟩) 4 3 (aX_4 K o193.2) rfl rfl hl.1 rfl (Nat.le_of_ble_eq_true rfl) dX0_make_118 ⟨Nat.le_of_ble_eq_true rfl, Nat.le_of_ble_eq_true rfl⟩ rfl rfl (fun H locs hW => ?_)
    refine lv_iload hx hb dX0_make_121 (lv_at hl 4 rfl) ?_
    refine lv_icmp_ge (tgt := 136) hx hb dX0_make_123 (by decide) (fun c200 => ?_) (fun c200 => ?_)
    · replace hf := (if_pos c200).symm.trans hf
      refine lv_aload_n hx hb dX0_make_136 rfl (lv_at hl 0 rfl) ?_
      refine gw_get (v := .ref (ka K 5)) F inc_X0 hW 0 0 3 (aX_0 K o197.2) rfl (by decide) (hG _ q_1_226) (fun _ h9 => h9) rfl dX0_make_137 ?_
      obtain ⟨o201, h202, hf⟩ := gw_bind hf
      refine gw_Vi (As := []) (mc' := 1) (ms' := 6) F hW (mXX3_take_5 h202) (cwV 0 hts (gT_V q_4_233 q_4_234 q_4_235 q_1_5 q_4_236) rfl rfl rfl hdX3_take ⟨Nat.le_of_ble_eq_true rfl, Nat.le_of_ble_eq_true rfl⟩) 5 3 (aX_5 K o197.2) rfl rfl hl.1 rfl (Nat.le_of_ble_eq_true rfl) dX0_make_140 ⟨Nat.le_of_ble_eq_true rfl, Nat.le_of_ble_eq_true rfl⟩ rfl rfl (fun H locs hW => ?_)
      refine lv_istore (lv' := [(5, .int o201.1), (0, .ref (ka K 0)), (1, .int x1), (2, .int x2), (3, .int x3), (4, .int x4)]) hx hb dX0_make_143 hl (by decide) rfl (fun ls hl => ?_)
      refine lv_iload_n hx hb dX0_make_145 rfl (lv_at hl 4 rfl) ?_
      refine lv_iconst (v := (-1 : Int32)) hx hb dX0_make_146 (by decide) ?_
      refine lv_icmp_ne (tgt := 171) hx hb dX0_make_147 (by decide) (fun c204 => ?_) (fun c204 => ?_)
      · replace hf := (if_neg c204).symm.trans hf
        refine lv_aload_n hx hb dX0_make_171 rfl (lv_at hl 1 rfl) ?_
        refine gw_get (v := .ref (ka K 7)) F inc_X0 hW 0 0 5 (aX_0 K o201.2) rfl (by decide) (hG _ q_1_228) (fun _ h9 => h9) rfl dX0_make_172 ?_
        refine lv_iload_n hx hb dX0_make_175 rfl (lv_at hl 4 rfl) ?_
        obtain ⟨o205, h206, hf⟩ := gw_bind hf
        refine gw_Vi (As := [.int x3]) (mc' := 1) (ms' := 6) F hW (mXX5_split_7 h206) (cwV 1 hts (gT_V q_5_231 q_5_232 q_5_233 q_1_7 q_5_234) rfl rfl rfl hdX5_split ⟨Nat.le_of_ble_eq_true rfl, Nat.le_of_ble_eq_true rfl⟩) 7 5 (aX_7 K o201.2) rfl rfl hl.1 rfl (Nat.le_of_ble_eq_true rfl) dX0_make_176 ⟨Nat.le_of_ble_eq_true rfl, Nat.le_of_ble_eq_true rfl⟩ rfl rfl (fun H locs hW => ?_)
        exact wXX0_make_0_179 F hl9 hT hZ x1 x2 o201.1 o205.1 _ _ hf _ _ _ (lv_sub hl [1, 2, 3, 0] rfl) hW
      · replace hf := (if_pos c204).symm.trans hf
        refine lv_aload_n hx hb dX0_make_150 rfl (lv_at hl 1 rfl) ?_
        refine gw_get (v := .ref (ka K 7)) F inc_X0 hW 0 0 5 (aX_0 K o201.2) rfl (by decide) (hG _ q_1_228) (fun _ h9 => h9) rfl dX0_make_151 ?_
        refine lv_aload_n hx hb dX0_make_154 rfl (lv_at hl 1 rfl) ?_
        refine gw_get (v := .ref (ka K 6)) F inc_X0 hW 0 0 4 (aX_0 K o201.2) rfl (by decide) (hG _ q_1_227) (fun _ h9 => h9) rfl dX0_make_155 ?_
        refine lv_aload_n hx hb dX0_make_158 rfl (lv_at hl 1 rfl) ?_
        refine gw_get (v := .int (o201.2.1 1)) F inc_X0 hW 0 0 10 (aX_0 K o201.2) rfl (by decide) (hG _ q_1_233) (fun _ h9 => h9) rfl dX0_make_159 ?_
        obtain ⟨o233, h234, hf⟩ := gw_bind hf
        refine gw_Vi (As := [.int (o201.2.1 1)]) (mc' := 1) (ms' := 6) F hW (mXX4_addDirectoryBlock_6 h234) (cwV 1 hts (gT_V q_5_22 q_5_23 q_5_24 q_1_6 q_5_25) rfl rfl rfl hdX4_addDirectoryBlock ⟨Nat.le_of_ble_eq_true rfl, Nat.le_of_ble_eq_true rfl⟩) 6 4 (aX_6 K o201.2) rfl rfl hl.1 rfl (Nat.le_of_ble_eq_true rfl) dX0_make_162 ⟨Nat.le_of_ble_eq_true rfl, Nat.le_of_ble_eq_true rfl⟩ rfl rfl (fun H locs hW => ?_)
        obtain ⟨o236, h237, hf⟩ := gw_bind hf
        refine gw_Vi (As := [.int o233.1]) (mc' := 1) (ms' := 6) F hW (mXX5_open_7 h237) (cwV 1 hts (gT_V q_5_227 q_5_228 q_5_229 q_1_7 q_5_230) rfl rfl rfl hdX5_open ⟨Nat.le_of_ble_eq_true rfl, Nat.le_of_ble_eq_true rfl⟩) 7 5 (aX_7 K o233.2) rfl rfl hl.1 rfl (Nat.le_of_ble_eq_true rfl) dX0_make_165 ⟨Nat.le_of_ble_eq_true rfl, Nat.le_of_ble_eq_true rfl⟩ rfl rfl (fun H locs hW => ?_)
        refine lv_goto (tgt := 179) hx hb dX0_make_168 (by decide) ?_
        exact wXX0_make_0_179 F hl9 hT hZ x1 x2 o201.1 o236.1 _ _ hf _ _ _ (lv_sub hl [1, 2, 3, 0] rfl) hW
    · replace hf := (if_neg c200).symm.trans hf
      exact wXX0_make_0_126 F hl9 hT hZ _ _ hf _ _ _ (lv_sub hl [] rfl) hW
set_option maxHeartbeats 4000000 in
set_option maxRecDepth 100000 in
theorem wXX0_make_0_77 {p : Program} {l : Launch} {e : Env} {s : State} {m : MethodId} {args : Array Value} {below : List Frame} {meth : Method} {c : Code} {A : Nat → Prop} {K : KX} (F : fx_ p s m args meth c cX0_make 7 (some .int) RX0 wsX0_make) (hl9 : l.stackTraces = false) (hT : ∀ x ∈ c.exceptionTable.toList, False) (hZ : xz_ A s) (x1 : Int32) (x2 : Int32) (x3 : Int32) (y0 : Int32) (σ : XS) (o : (Nat × Int32 × XS)) (hf : fXX0_make_0_77 (kn K) x1 x2 x3 y0 σ = some o) (H : Heap) (locs : List Loc) (ls : Array Slot) (hl : lv_has ls 7 [(0, .ref (ka K 0)), (1, .int x1), (2, .int x2), (3, .int x3)]) (hW : gw_ (kD K) vwCl (tyX K) (wX K) A s σ H locs) : W p l e rXX0_make_0 s m args below meth c H locs 1 6 (gx_Q o.1 (MQ below (gw_Qi (kD K) vwCl (tyX K) (wX K) A o.2) args s rXX0_make_0.cells rXX0_make_0.slots A) (gx_T below (kD K) vwCl (tyX K) (wX K) A o.1 o.2.2 s rXX0_make_0.cells rXX0_make_0.slots)) (F0 m 77 ls [.int y0]) := by
  have hx := F.1
  have hb := F.2.1
  have hml := F.2.2.2.1
  have hown := F.2.2.2.2.1
  have hts := F.2.2.2.2.2.1
  have hG : ∀ x ∈ gT, x.before args s = true := fun x h => hts x (List.mem_cons_of_mem _ h)
  unfold fXX0_make_0_77 at hf
  refine lv_istore (lv' := [(4, .int y0), (0, .ref (ka K 0)), (1, .int x1), (2, .int x2), (3, .int x3)]) hx hb dX0_make_77 hl (by decide) rfl (fun ls hl => ?_)
  refine lv_iload_n hx hb dX0_make_79 rfl (lv_at hl 4 rfl) ?_
  refine lv_iconst (v := (-1 : Int32)) hx hb dX0_make_80 (by decide) ?_
  refine lv_icmp_ne (tgt := 103) hx hb dX0_make_81 (by decide) (fun c192 => ?_) (fun c192 => ?_)
  · replace hf := (if_neg c192).symm.trans hf
    exact wXX0_make_0_103 F hl9 hT hZ x1 x2 x3 y0 _ _ hf _ _ _ (lv_sub hl [1, 2, 3, 4, 0] rfl) hW
  · replace hf := (if_pos c192).symm.trans hf
    refine lv_iload hx hb dX0_make_84 (lv_at hl 0 rfl) ?_
    refine lv_aload_n hx hb dX0_make_86 rfl (lv_at hl 1 rfl) ?_
    refine gw_get (v := .ref (ka K 6)) F inc_X0 hW 0 0 4 (aX_0 K σ) rfl (by decide) (hG _ q_1_227) (fun _ h9 => h9) rfl dX0_make_87 ?_
    refine lv_aload_n hx hb dX0_make_90 rfl (lv_at hl 1 rfl) ?_
    refine gw_get (v := .int (σ.1 1)) F inc_X0 hW 0 0 10 (aX_0 K σ) rfl (by decide) (hG _ q_1_233) (fun _ h9 => h9) rfl dX0_make_91 ?_
    refine lv_sipush (v := (1024 : Int32)) hx hb dX0_make_94 (by decide) ?_
    obtain ⟨o239, h240, hf⟩ := gw_bind hf
    refine gw_Vi (As := [.int (σ.1 1), .int (1024 : Int32)]) (mc' := 1) (ms' := 6) F hW (mXX4_costOf_6 h240) (cwV 2 hts (gT_V q_5_206 q_5_207 q_5_208 q_1_6 q_5_209) rfl rfl rfl hdX4_costOf ⟨Nat.le_of_ble_eq_true rfl, Nat.le_of_ble_eq_true rfl⟩) 6 4 (aX_6 K σ) rfl rfl hl.1 rfl (Nat.le_of_ble_eq_true rfl) dX0_make_97 ⟨Nat.le_of_ble_eq_true rfl, Nat.le_of_ble_eq_true rfl⟩ rfl rfl (fun H locs hW => ?_)
    refine lv_iadd hx hb dX0_make_100 ?_
    refine lv_istore (lv' := [(4, .int (y0 + o239.1)), (0, .ref (ka K 0)), (1, .int x1), (2, .int x2), (3, .int x3)]) hx hb dX0_make_101 hl (by decide) rfl (fun ls hl => ?_)
    exact wXX0_make_0_103 F hl9 hT hZ x1 x2 x3 (y0 + o239.1) _ _ hf _ _ _ (lv_sub hl [1, 2, 3, 4, 0] rfl) hW
set_option maxHeartbeats 4000000 in
set_option maxRecDepth 100000 in
theorem wXX0_make_0_0 {p : Program} {l : Launch} {e : Env} {s : State} {m : MethodId} {args : Array Value} {below : List Frame} {meth : Method} {c : Code} {A : Nat → Prop} {K : KX} (F : fx_ p s m args meth c cX0_make 7 (some .int) RX0 wsX0_make) (hl9 : l.stackTraces = false) (hT : ∀ x ∈ c.exceptionTable.toList, False) (hZ : xz_ A s) (x1 : Int32) (σ : XS) (o : (Nat × Int32 × XS)) (hf : fXX0_make_0_0 (kn K) x1 σ = some o) (H : Heap) (locs : List Loc) (ls : Array Slot) (hl : lv_has ls 7 [(0, .ref (ka K 0)), (1, .int x1)]) (hW : gw_ (kD K) vwCl (tyX K) (wX K) A s σ H locs) : W p l e rXX0_make_0 s m args below meth c H locs 0 0 (gx_Q o.1 (MQ below (gw_Qi (kD K) vwCl (tyX K) (wX K) A o.2) args s rXX0_make_0.cells rXX0_make_0.slots A) (gx_T below (kD K) vwCl (tyX K) (wX K) A o.1 o.2.2 s rXX0_make_0.cells rXX0_make_0.slots)) (F0 m 0 ls []) := by
  have hx := F.1
  have hb := F.2.1
  have hml := F.2.2.2.1
  have hown := F.2.2.2.2.1
  have hts := F.2.2.2.2.2.1
  have hG : ∀ x ∈ gT, x.before args s = true := fun x h => hts x (List.mem_cons_of_mem _ h)
  unfold fXX0_make_0_0 at hf
  refine lv_aload_n hx hb dX0_make_0 rfl (lv_at hl 0 rfl) ?_
  refine gw_get (v := .ref (ka K 16)) F inc_X0 hW 0 0 8 (aX_0 K σ) rfl (by decide) (hG _ q_1_231) (fun _ h9 => h9) rfl dX0_make_1 ?_
  obtain ⟨o170, h171, hf⟩ := gw_bind hf
  refine gw_Vi (As := []) (mc' := 0) (ms' := 0) F hW (mXX8_drain_16 h171) (cwV 0 hts (gT_V q_5_170 q_5_171 q_5_172 q_1_11 q_5_173) rfl rfl rfl hdX8_drain ⟨Nat.le_of_ble_eq_true rfl, Nat.le_of_ble_eq_true rfl⟩) 16 8 (aX_16 K σ) rfl rfl hl.1 rfl (Nat.le_of_ble_eq_true rfl) dX0_make_4 ⟨Nat.le_of_ble_eq_true rfl, Nat.le_of_ble_eq_true rfl⟩ rfl rfl (fun H locs hW => ?_)
  refine lv_istore_n (lv' := [(2, .int o170.1), (0, .ref (ka K 0)), (1, .int x1)]) hx hb dX0_make_7 rfl hl (by decide) rfl (fun ls hl => ?_)
  refine lv_aload_n hx hb dX0_make_8 rfl (lv_at hl 1 rfl) ?_
  obtain ⟨o173, h174, hf⟩ := gw_bind hf
  refine gx_Vv (As := []) (mc' := 1) (ms' := 6) F hT hZ hW (mXX0_needVolume_0 hl9 h174) (cwV 0 hts (gT_V q_5_66 q_5_68 qp_28 q_1_1 q_5_69) rfl rfl rfl hdX0_needVolume ⟨Nat.le_of_ble_eq_true rfl, Nat.le_of_ble_eq_true rfl⟩) 0 0 (aX_0 K o170.2) rfl rfl hl.1 rfl (Nat.le_of_ble_eq_true rfl) dX0_make_9 ⟨Nat.le_of_ble_eq_true rfl, Nat.le_of_ble_eq_true rfl⟩ rfl rfl (Nat.le_of_ble_eq_true rfl) (Nat.le_of_ble_eq_true rfl) (fun c176 => by replace hf := (if_neg c176).symm.trans hf; cases hf; exact ⟨rfl, rfl⟩) (fun c176 H locs hW => ?_)
  replace hf := (if_pos c176).symm.trans hf
  refine lv_aload_n hx hb dX0_make_12 rfl (lv_at hl 1 rfl) ?_
  refine gw_get (v := .ref (ka K 7)) F inc_X0 hW 0 0 5 (aX_0 K o173.2) rfl (by decide) (hG _ q_1_228) (fun _ h9 => h9) rfl dX0_make_13 ?_
  refine lv_aload_n hx hb dX0_make_16 rfl (lv_at hl 1 rfl) ?_
  refine gw_get (v := .int (o173.2.1 1)) F inc_X0 hW 0 0 10 (aX_0 K o173.2) rfl (by decide) (hG _ q_1_233) (fun _ h9 => h9) rfl dX0_make_17 ?_
  obtain ⟨o177, h178, hf⟩ := gw_bind hf
  refine gw_Vv (As := [.int (o173.2.1 1)]) (mc' := 1) (ms' := 6) F hW (mXX5_read_7 h178) (cwV 1 hts (gT_V q_5_86 q_2_150 q_2_151 q_1_7 q_2_152) rfl rfl rfl hdX5_read ⟨Nat.le_of_ble_eq_true rfl, Nat.le_of_ble_eq_true rfl⟩) 7 5 (aX_7 K o173.2) rfl rfl hl.1 rfl (Nat.le_of_ble_eq_true rfl) dX0_make_20 ⟨Nat.le_of_ble_eq_true rfl, Nat.le_of_ble_eq_true rfl⟩ rfl rfl (fun H locs hW => ?_)
  refine lv_aload_n hx hb dX0_make_23 rfl (lv_at hl 1 rfl) ?_
  refine gw_get (v := .ref (ka K 16)) F inc_X0 hW 0 0 8 (aX_0 K o177) rfl (by decide) (hG _ q_1_231) (fun _ h9 => h9) rfl dX0_make_24 ?_
  refine lv_iload_n hx hb dX0_make_27 rfl (lv_at hl 0 rfl) ?_
  obtain ⟨o180, h181, hf⟩ := gw_bind hf
  refine gw_Vz (As := [.int o170.1]) (mc' := 1) (ms' := 6) F hW (mXX8_isName_16 h181) (cwV 1 hts (gT_V q_5_174 q_5_175 q_5_176 q_1_11 q_5_177) rfl rfl rfl hdX8_isName ⟨Nat.le_of_ble_eq_true rfl, Nat.le_of_ble_eq_true rfl⟩) 16 8 (aX_16 K o177) rfl rfl hl.1 rfl (Nat.le_of_ble_eq_true rfl) dX0_make_28 ⟨Nat.le_of_ble_eq_true rfl, Nat.le_of_ble_eq_true rfl⟩ rfl rfl (fun H locs z182 hW => ?_)
  refine lv_if_eq (tgt := 49) hx hb dX0_make_31 (by decide) (fun c183 => ?_) (fun c183 => ?_)
  · replace hf := (if_pos c183).symm.trans hf
    exact wXX0_make_0_49 F hl9 hT hZ _ _ hf _ _ _ (lv_sub hl [] rfl) hW
  · replace hf := (if_neg c183).symm.trans hf
    refine lv_aload_n hx hb dX0_make_34 rfl (lv_at hl 1 rfl) ?_
    refine gw_get (v := .ref (ka K 7)) F inc_X0 hW 0 0 5 (aX_0 K o180.2) rfl (by decide) (hG _ q_1_228) (fun _ h9 => h9) rfl dX0_make_35 ?_
    refine lv_aload_n hx hb dX0_make_38 rfl (lv_at hl 1 rfl) ?_
    refine gw_get (v := .ref (ka K 16)) F inc_X0 hW 0 0 8 (aX_0 K o180.2) rfl (by decide) (hG _ q_1_231) (fun _ h9 => h9) rfl dX0_make_39 ?_
    refine lv_iload_n hx hb dX0_make_42 rfl (lv_at hl 0 rfl) ?_
    obtain ⟨o184, h185, hf⟩ := gw_bind hf
    refine gw_Vz (As := [.ref (ka K 16), .int o170.1]) (mc' := 1) (ms' := 6) F hW (mXX5_has_7_16 h185) (cwV 2 hts (gT_V q_5_182 q_5_183 q_5_184 q_1_7 q_5_185) rfl rfl rfl hdX5_has ⟨Nat.le_of_ble_eq_true rfl, Nat.le_of_ble_eq_true rfl⟩) 7 5 (aX_7 K o180.2) rfl rfl hl.1 rfl (Nat.le_of_ble_eq_true rfl) dX0_make_43 ⟨Nat.le_of_ble_eq_true rfl, Nat.le_of_ble_eq_true rfl⟩ rfl rfl (fun H locs z186 hW => ?_)
    refine lv_if_eq (tgt := 59) hx hb dX0_make_46 (by decide) (fun c187 => ?_) (fun c187 => ?_)
    · replace hf := (if_pos c187).symm.trans hf
      refine lv_aload_n hx hb dX0_make_59 rfl (lv_at hl 1 rfl) ?_
      refine gw_get (v := .ref (ka K 7)) F inc_X0 hW 0 0 5 (aX_0 K o184.2) rfl (by decide) (hG _ q_1_228) (fun _ h9 => h9) rfl dX0_make_60 ?_
      refine lv_iload_n hx hb dX0_make_63 rfl (lv_at hl 0 rfl) ?_
      obtain ⟨o188, h189, hf⟩ := gw_bind hf
      refine gw_Vi (As := [.int o170.1]) (mc' := 1) (ms' := 6) F hW (mXX5_roomFor_7 h189) (cwV 1 hts (gT_V q_5_200 q_5_201 q_5_202 q_1_7 q_5_203) rfl rfl rfl hdX5_roomFor ⟨Nat.le_of_ble_eq_true rfl, Nat.le_of_ble_eq_true rfl⟩) 7 5 (aX_7 K o184.2) rfl rfl hl.1 rfl (Nat.le_of_ble_eq_true rfl) dX0_make_64 ⟨Nat.le_of_ble_eq_true rfl, Nat.le_of_ble_eq_true rfl⟩ rfl rfl (fun H locs hW => ?_)
      refine lv_istore_n (lv' := [(3, .int o188.1), (2, .int o170.1), (0, .ref (ka K 0)), (1, .int x1)]) hx hb dX0_make_67 rfl hl (by decide) rfl (fun ls hl => ?_)
      refine lv_iload_n hx hb dX0_make_68 rfl (lv_at hl 3 rfl) ?_
      refine lv_if_eq (tgt := 76) hx hb dX0_make_69 (by decide) (fun c191 => ?_) (fun c191 => ?_)
      · replace hf := (if_pos c191).symm.trans hf
        refine lv_iconst (v := (0 : Int32)) hx hb dX0_make_76 (by decide) ?_
        exact wXX0_make_0_77 F hl9 hT hZ x1 o170.1 o188.1 (0 : Int32) _ _ hf _ _ _ (lv_sub hl [2, 3, 1, 0] rfl) hW
      · replace hf := (if_neg c191).symm.trans hf
        refine lv_iconst (v := (1 : Int32)) hx hb dX0_make_72 (by decide) ?_
        refine lv_goto (tgt := 77) hx hb dX0_make_73 (by decide) ?_
        exact wXX0_make_0_77 F hl9 hT hZ x1 o170.1 o188.1 (1 : Int32) _ _ hf _ _ _ (lv_sub hl [2, 3, 1, 0] rfl) hW
    · replace hf := (if_neg c187).symm.trans hf
      exact wXX0_make_0_49 F hl9 hT hZ _ _ hf _ _ _ (lv_sub hl [] rfl) hW
set_option maxHeartbeats 4000000 in
set_option maxRecDepth 100000 in
theorem mXX0_make_0 {l : Launch} (hl9 : l.stackTraces = false) {K : KX} {σ : XS} {x1 : Int32} {o : (Nat × Int32 × XS)} (hf : fXX0_make_0 (kn K) x1 σ = some o) : gx_Mi l (kD K) vwCl (tyX K) (wX K) yX0_make wsX0_make rXX0_make_0 [.ref (ka K 0), .int x1] σ o := by
  refine gx_body (cc := cX0_make) (maxL := 7) (yret := some .int) (by decide +kernel) rfl ?_ (Nat.le_of_ble_eq_true rfl)
  intro p e s m below meth c A F hT hZ hW ls hl
  exact wXX0_make_0_0 F hl9 hT hZ x1 σ o hf s.heap [] ls hl hW
abbrev rXX0_fileAt_0 : Room := { frames := 6, cells := 1, slots := 6, locals := 91 }
set_option maxHeartbeats 4000000 in
set_option maxRecDepth 100000 in
theorem wXX0_fileAt_0_0 {p : Program} {l : Launch} {e : Env} {s : State} {m : MethodId} {args : Array Value} {below : List Frame} {meth : Method} {c : Code} {A : Nat → Prop} {K : KX} (F : fx_ p s m args meth c cX0_fileAt 3 (some .int) RX0 wsX0_fileAt) (hl9 : l.stackTraces = false) (hT : ∀ x ∈ c.exceptionTable.toList, False) (hZ : xz_ A s) (x1 : Int32) (σ : XS) (o : (Nat × Int32 × XS)) (hf : fXX0_fileAt_0_0 (kn K) x1 σ = some o) (H : Heap) (locs : List Loc) (ls : Array Slot) (hl : lv_has ls 3 [(0, .ref (ka K 0)), (1, .int x1)]) (hW : gw_ (kD K) vwCl (tyX K) (wX K) A s σ H locs) : W p l e rXX0_fileAt_0 s m args below meth c H locs 0 0 (gx_Q o.1 (MQ below (gw_Qi (kD K) vwCl (tyX K) (wX K) A o.2) args s rXX0_fileAt_0.cells rXX0_fileAt_0.slots A) (gx_T below (kD K) vwCl (tyX K) (wX K) A o.1 o.2.2 s rXX0_fileAt_0.cells rXX0_fileAt_0.slots)) (F0 m 0 ls []) := by
  have hx := F.1
  have hb := F.2.1
  have hml := F.2.2.2.1
  have hown := F.2.2.2.2.1
  have hts := F.2.2.2.2.2.1
  have hG : ∀ x ∈ gT, x.before args s = true := fun x h => hts x (List.mem_cons_of_mem _ h)
  unfold fXX0_fileAt_0_0 at hf
  refine lv_aload_n hx hb dX0_fileAt_0 rfl (lv_at hl 0 rfl) ?_
  refine gw_get (v := .ref (ka K 7)) F inc_X0 hW 0 0 5 (aX_0 K σ) rfl (by decide) (hG _ q_1_228) (fun _ h9 => h9) rfl dX0_fileAt_1 ?_
  refine lv_iload_n hx hb dX0_fileAt_4 rfl (lv_at hl 1 rfl) ?_
  obtain ⟨o1, h2, hf⟩ := gw_bind hf
  refine gw_Vi (As := [.int x1]) (mc' := 0) (ms' := 0) F hW (mXX5_inodeOf_7 h2) (cwV 1 hts (gT_V q_5_128 q_2_193 q_2_194 q_1_7 q_2_195) rfl rfl rfl hdX5_inodeOf ⟨Nat.le_of_ble_eq_true rfl, Nat.le_of_ble_eq_true rfl⟩) 7 5 (aX_7 K σ) rfl rfl hl.1 rfl (Nat.le_of_ble_eq_true rfl) dX0_fileAt_5 ⟨Nat.le_of_ble_eq_true rfl, Nat.le_of_ble_eq_true rfl⟩ rfl rfl (fun H locs hW => ?_)
  refine lv_istore_n (lv' := [(2, .int o1.1), (0, .ref (ka K 0)), (1, .int x1)]) hx hb dX0_fileAt_8 rfl hl (by decide) rfl (fun ls hl => ?_)
  refine lv_aload_n hx hb dX0_fileAt_9 rfl (lv_at hl 1 rfl) ?_
  refine gw_get (v := .ref (ka K 6)) F inc_X0 hW 0 0 4 (aX_0 K o1.2) rfl (by decide) (hG _ q_1_227) (fun _ h9 => h9) rfl dX0_fileAt_10 ?_
  refine lv_iload_n hx hb dX0_fileAt_13 rfl (lv_at hl 0 rfl) ?_
  obtain ⟨o4, h5, hf⟩ := gw_bind hf
  refine gw_Vz (As := [.int o1.1]) (mc' := 0) (ms' := 0) F hW (mXX4_isDirectory_6 h5) (cwV 1 hts (gT_V q_5_129 q_2_144 q_2_145 q_1_6 q_2_146) rfl rfl rfl hdX4_isDirectory ⟨Nat.le_of_ble_eq_true rfl, Nat.le_of_ble_eq_true rfl⟩) 6 4 (aX_6 K o1.2) rfl rfl hl.1 rfl (Nat.le_of_ble_eq_true rfl) dX0_fileAt_14 ⟨Nat.le_of_ble_eq_true rfl, Nat.le_of_ble_eq_true rfl⟩ rfl rfl (fun H locs z6 hW => ?_)
  refine lv_if_eq (tgt := 31) hx hb dX0_fileAt_17 (by decide) (fun c7 => ?_) (fun c7 => ?_)
  · replace hf := (if_pos c7).symm.trans hf
    refine lv_iload_n hx hb dX0_fileAt_31 rfl (lv_at hl 0 rfl) ?_
    refine W.widen (k := rXX0_fileAt_0.cells) (n := rXX0_fileAt_0.slots) (Nat.le_of_ble_eq_true rfl) (Nat.le_of_ble_eq_true rfl) ?_
    cases hf
    exact gx_ret0 rfl (gw_reti F hW rfl dX0_fileAt_32)
  · replace hf := (if_neg c7).symm.trans hf
    cases hf
    exact gx_throw (k := 3) (text := "the item is a directory") F hl9 hT hZ hG hW (by decide) rfl (by decide +kernel) q_4_206 q_1_18 q_3_52 (List.mem_of_getElem? (i := 11) rfl) ow_3_109 hl.1 dX0_fileAt_20 dX0_fileAt_23 (Or.inr ⟨rfl, rfl⟩) dX0_fileAt_24 dX0_fileAt_27 dX0_fileAt_30 (Nat.le_of_ble_eq_true rfl) (Nat.le_of_ble_eq_true rfl) (Nat.le_of_ble_eq_true rfl) (Nat.le_of_ble_eq_true rfl) (Nat.le_of_ble_eq_true rfl) (Nat.le_of_ble_eq_true rfl)
set_option maxHeartbeats 4000000 in
set_option maxRecDepth 100000 in
theorem mXX0_fileAt_0 {l : Launch} (hl9 : l.stackTraces = false) {K : KX} {σ : XS} {x1 : Int32} {o : (Nat × Int32 × XS)} (hf : fXX0_fileAt_0 (kn K) x1 σ = some o) : gx_Mi l (kD K) vwCl (tyX K) (wX K) yX0_fileAt wsX0_fileAt rXX0_fileAt_0 [.ref (ka K 0), .int x1] σ o := by
  refine gx_body (cc := cX0_fileAt) (maxL := 3) (yret := some .int) (by decide +kernel) rfl ?_ (Nat.le_of_ble_eq_true rfl)
  intro p e s m below meth c A F hT hZ hW ls hl
  exact wXX0_fileAt_0_0 F hl9 hT hZ x1 σ o hf s.heap [] ls hl hW
abbrev rXX0_needBlocks_0 : Room := { frames := 6, cells := 1, slots := 6, locals := 91 }
set_option maxHeartbeats 4000000 in
set_option maxRecDepth 100000 in
theorem wXX0_needBlocks_0_0 {p : Program} {l : Launch} {e : Env} {s : State} {m : MethodId} {args : Array Value} {below : List Frame} {meth : Method} {c : Code} {A : Nat → Prop} {K : KX} (F : fx_ p s m args meth c cX0_needBlocks 2 none RX0 wsX0_needBlocks) (hl9 : l.stackTraces = false) (hT : ∀ x ∈ c.exceptionTable.toList, False) (hZ : xz_ A s) (x1 : Int32) (σ : XS) (o : (Nat × XS)) (hf : fXX0_needBlocks_0_0 (kn K) x1 σ = some o) (H : Heap) (locs : List Loc) (ls : Array Slot) (hl : lv_has ls 2 [(0, .ref (ka K 0)), (1, .int x1)]) (hW : gw_ (kD K) vwCl (tyX K) (wX K) A s σ H locs) : W p l e rXX0_needBlocks_0 s m args below meth c H locs 0 0 (gx_Q o.1 (MQ below (gw_Qv (kD K) vwCl (tyX K) (wX K) A o.2) args s rXX0_needBlocks_0.cells rXX0_needBlocks_0.slots A) (gx_T below (kD K) vwCl (tyX K) (wX K) A o.1 o.2 s rXX0_needBlocks_0.cells rXX0_needBlocks_0.slots)) (F0 m 0 ls []) := by
  have hx := F.1
  have hb := F.2.1
  have hml := F.2.2.2.1
  have hown := F.2.2.2.2.1
  have hts := F.2.2.2.2.2.1
  have hG : ∀ x ∈ gT, x.before args s = true := fun x h => hts x (List.mem_cons_of_mem _ h)
  unfold fXX0_needBlocks_0_0 at hf
  refine lv_aload_n hx hb dX0_needBlocks_0 rfl (lv_at hl 0 rfl) ?_
  refine gw_get (v := .ref (ka K 4)) F inc_X0 hW 0 0 2 (aX_0 K σ) rfl (by decide) (hG _ q_1_225) (fun _ h9 => h9) rfl dX0_needBlocks_1 ?_
  obtain ⟨o1, h2, hf⟩ := gw_bind hf
  refine gw_Vi (As := []) (mc' := 0) (ms' := 0) F hW (mXX3_free_4 h2) (cwV 0 hts (gT_V q_4_184 q_4_185 q_4_186 q_1_5 q_4_187) rfl rfl rfl hdX3_free ⟨Nat.le_of_ble_eq_true rfl, Nat.le_of_ble_eq_true rfl⟩) 4 3 (aX_4 K σ) rfl rfl hl.1 rfl (Nat.le_of_ble_eq_true rfl) dX0_needBlocks_4 ⟨Nat.le_of_ble_eq_true rfl, Nat.le_of_ble_eq_true rfl⟩ rfl rfl (fun H locs hW => ?_)
  refine lv_iload_n hx hb dX0_needBlocks_7 rfl (lv_at hl 1 rfl) ?_
  refine lv_icmp_ge (tgt := 22) hx hb dX0_needBlocks_8 (by decide) (fun c4 => ?_) (fun c4 => ?_)
  · replace hf := (if_pos c4).symm.trans hf
    refine W.widen (k := rXX0_needBlocks_0.cells) (n := rXX0_needBlocks_0.slots) (Nat.le_of_ble_eq_true rfl) (Nat.le_of_ble_eq_true rfl) ?_
    cases hf
    exact gx_ret0 rfl (gw_retv F hW rfl dX0_needBlocks_22)
  · replace hf := (if_neg c4).symm.trans hf
    cases hf
    exact gx_throw (k := 4) (text := "too few blocks are free") F hl9 hT hZ hG hW (by decide) rfl (by decide +kernel) q_5_211 q_1_30 q_5_212 (List.mem_of_getElem? (i := 12) rfl) ow_4_228 hl.1 dX0_needBlocks_11 dX0_needBlocks_14 (Or.inr ⟨rfl, rfl⟩) dX0_needBlocks_15 dX0_needBlocks_18 dX0_needBlocks_21 (Nat.le_of_ble_eq_true rfl) (Nat.le_of_ble_eq_true rfl) (Nat.le_of_ble_eq_true rfl) (Nat.le_of_ble_eq_true rfl) (Nat.le_of_ble_eq_true rfl) (Nat.le_of_ble_eq_true rfl)
set_option maxHeartbeats 4000000 in
set_option maxRecDepth 100000 in
theorem mXX0_needBlocks_0 {l : Launch} (hl9 : l.stackTraces = false) {K : KX} {σ : XS} {x1 : Int32} {o : (Nat × XS)} (hf : fXX0_needBlocks_0 (kn K) x1 σ = some o) : gx_Mv l (kD K) vwCl (tyX K) (wX K) yX0_needBlocks wsX0_needBlocks rXX0_needBlocks_0 [.ref (ka K 0), .int x1] σ o := by
  refine gx_body (cc := cX0_needBlocks) (maxL := 2) (yret := none) (by decide +kernel) rfl ?_ (Nat.le_of_ble_eq_true rfl)
  intro p e s m below meth c A F hT hZ hW ls hl
  exact wXX0_needBlocks_0_0 F hl9 hT hZ x1 σ o hf s.heap [] ls hl hW
abbrev rXX0_write_0 : Room := { frames := 8, cells := 4, slots := 24, locals := 150 }
set_option maxHeartbeats 4000000 in
set_option maxRecDepth 100000 in
theorem wXX0_write_0_0 {p : Program} {l : Launch} {e : Env} {s : State} {m : MethodId} {args : Array Value} {below : List Frame} {meth : Method} {c : Code} {A : Nat → Prop} {K : KX} (F : fx_ p s m args meth c cX0_write 4 (some .int) RX0 wsX0_write) (hl9 : l.stackTraces = false) (hT : ∀ x ∈ c.exceptionTable.toList, False) (hZ : xz_ A s) (x1 : Int32) (σ : XS) (o : (Nat × Int32 × XS)) (hf : fXX0_write_0_0 (kn K) x1 σ = some o) (H : Heap) (locs : List Loc) (ls : Array Slot) (hl : lv_has ls 4 [(0, .ref (ka K 0)), (1, .int x1)]) (hW : gw_ (kD K) vwCl (tyX K) (wX K) A s σ H locs) : W p l e rXX0_write_0 s m args below meth c H locs 0 0 (gx_Q o.1 (MQ below (gw_Qi (kD K) vwCl (tyX K) (wX K) A o.2) args s rXX0_write_0.cells rXX0_write_0.slots A) (gx_T below (kD K) vwCl (tyX K) (wX K) A o.1 o.2.2 s rXX0_write_0.cells rXX0_write_0.slots)) (F0 m 0 ls []) := by
  have hx := F.1
  have hb := F.2.1
  have hml := F.2.2.2.1
  have hown := F.2.2.2.2.1
  have hts := F.2.2.2.2.2.1
  have hG : ∀ x ∈ gT, x.before args s = true := fun x h => hts x (List.mem_cons_of_mem _ h)
  unfold fXX0_write_0_0 at hf
  refine lv_aload_n hx hb dX0_write_0 rfl (lv_at hl 0 rfl) ?_
  refine gw_get (v := .ref (ka K 16)) F inc_X0 hW 0 0 8 (aX_0 K σ) rfl (by decide) (hG _ q_1_231) (fun _ h9 => h9) rfl dX0_write_1 ?_
  obtain ⟨o1, h2, hf⟩ := gw_bind hf
  refine gw_Vi (As := []) (mc' := 0) (ms' := 0) F hW (mXX8_drain_16 h2) (cwV 0 hts (gT_V q_5_170 q_5_171 q_5_172 q_1_11 q_5_173) rfl rfl rfl hdX8_drain ⟨Nat.le_of_ble_eq_true rfl, Nat.le_of_ble_eq_true rfl⟩) 16 8 (aX_16 K σ) rfl rfl hl.1 rfl (Nat.le_of_ble_eq_true rfl) dX0_write_4 ⟨Nat.le_of_ble_eq_true rfl, Nat.le_of_ble_eq_true rfl⟩ rfl rfl (fun H locs hW => ?_)
  refine lv_istore_n (lv' := [(2, .int o1.1), (0, .ref (ka K 0)), (1, .int x1)]) hx hb dX0_write_7 rfl hl (by decide) rfl (fun ls hl => ?_)
  refine lv_aload_n hx hb dX0_write_8 rfl (lv_at hl 1 rfl) ?_
  refine lv_aload_n hx hb dX0_write_9 rfl (lv_at hl 1 rfl) ?_
  refine lv_iload_n hx hb dX0_write_10 rfl (lv_at hl 2 rfl) ?_
  obtain ⟨o4, h5, hf⟩ := gw_bind hf
  refine gx_Vi (As := [.int x1]) (mc' := 2) (ms' := 12) F hT hZ hW (mXX0_itemHere_0 hl9 h5) (cwV 1 hts (gT_V q_5_99 q_5_101 qp_29 q_1_1 q_5_102) rfl rfl rfl hdX0_itemHere ⟨Nat.le_of_ble_eq_true rfl, Nat.le_of_ble_eq_true rfl⟩) 0 0 (aX_0 K o1.2) rfl rfl hl.1 rfl (Nat.le_of_ble_eq_true rfl) dX0_write_11 ⟨Nat.le_of_ble_eq_true rfl, Nat.le_of_ble_eq_true rfl⟩ rfl rfl (Nat.le_of_ble_eq_true rfl) (Nat.le_of_ble_eq_true rfl) (fun c7 => by replace hf := (if_neg c7).symm.trans hf; cases hf; exact ⟨rfl, rfl⟩) (fun c7 H locs hW => ?_)
  replace hf := (if_pos c7).symm.trans hf
  obtain ⟨o8, h9, hf⟩ := gw_bind hf
  refine gx_Vi (As := [.int o4.2.1]) (mc' := 3) (ms' := 18) F hT hZ hW (mXX0_fileAt_0 hl9 h9) (cwV 1 hts (gT_V q_6_15 q_6_17 qp_31 q_1_1 q_6_18) rfl rfl rfl hdX0_fileAt ⟨Nat.le_of_ble_eq_true rfl, Nat.le_of_ble_eq_true rfl⟩) 0 0 (aX_0 K o4.2.2) rfl rfl hl.1 rfl (Nat.le_of_ble_eq_true rfl) dX0_write_14 ⟨Nat.le_of_ble_eq_true rfl, Nat.le_of_ble_eq_true rfl⟩ rfl rfl (Nat.le_of_ble_eq_true rfl) (Nat.le_of_ble_eq_true rfl) (fun c11 => by replace hf := (if_neg c11).symm.trans hf; cases hf; exact ⟨rfl, rfl⟩) (fun c11 H locs hW => ?_)
  replace hf := (if_pos c11).symm.trans hf
  refine lv_istore_n (lv' := [(3, .int o8.2.1), (2, .int o1.1), (0, .ref (ka K 0)), (1, .int x1)]) hx hb dX0_write_17 rfl hl (by decide) rfl (fun ls hl => ?_)
  refine lv_aload_n hx hb dX0_write_18 rfl (lv_at hl 2 rfl) ?_
  refine lv_aload_n hx hb dX0_write_19 rfl (lv_at hl 2 rfl) ?_
  refine gw_get (v := .ref (ka K 6)) F inc_X0 hW 0 0 4 (aX_0 K o8.2.2) rfl (by decide) (hG _ q_1_227) (fun _ h9 => h9) rfl dX0_write_20 ?_
  refine lv_iload_n hx hb dX0_write_23 rfl (lv_at hl 0 rfl) ?_
  refine lv_iload_n hx hb dX0_write_24 rfl (lv_at hl 1 rfl) ?_
  obtain ⟨o12, h13, hf⟩ := gw_bind hf
  refine gw_Vi (As := [.int o8.2.1, .int o1.1]) (mc' := 3) (ms' := 18) F hW (mXX4_costOf_6 h13) (cwV 2 hts (gT_V q_5_206 q_5_207 q_5_208 q_1_6 q_5_209) rfl rfl rfl hdX4_costOf ⟨Nat.le_of_ble_eq_true rfl, Nat.le_of_ble_eq_true rfl⟩) 6 4 (aX_6 K o8.2.2) rfl rfl hl.1 rfl (Nat.le_of_ble_eq_true rfl) dX0_write_25 ⟨Nat.le_of_ble_eq_true rfl, Nat.le_of_ble_eq_true rfl⟩ rfl rfl (fun H locs hW => ?_)
  obtain ⟨o15, h16, hf⟩ := gw_bind hf
  refine gx_Vv (As := [.int o12.1]) (mc' := 4) (ms' := 24) F hT hZ hW (mXX0_needBlocks_0 hl9 h16) (cwV 1 hts (gT_V q_6_20 q_6_22 qp_32 q_1_1 q_6_23) rfl rfl rfl hdX0_needBlocks ⟨Nat.le_of_ble_eq_true rfl, Nat.le_of_ble_eq_true rfl⟩) 0 0 (aX_0 K o12.2) rfl rfl hl.1 rfl (Nat.le_of_ble_eq_true rfl) dX0_write_28 ⟨Nat.le_of_ble_eq_true rfl, Nat.le_of_ble_eq_true rfl⟩ rfl rfl (Nat.le_of_ble_eq_true rfl) (Nat.le_of_ble_eq_true rfl) (fun c18 => by replace hf := (if_neg c18).symm.trans hf; cases hf; exact ⟨rfl, rfl⟩) (fun c18 H locs hW => ?_)
  replace hf := (if_pos c18).symm.trans hf
  refine lv_aload_n hx hb dX0_write_31 rfl (lv_at hl 2 rfl) ?_
  refine gw_get (v := .ref (ka K 6)) F inc_X0 hW 0 0 4 (aX_0 K o15.2) rfl (by decide) (hG _ q_1_227) (fun _ h9 => h9) rfl dX0_write_32 ?_
  refine lv_iload_n hx hb dX0_write_35 rfl (lv_at hl 0 rfl) ?_
  refine lv_aload_n hx hb dX0_write_36 rfl (lv_at hl 2 rfl) ?_
  refine gw_get (v := .ref (ka K 16)) F inc_X0 hW 0 0 8 (aX_0 K o15.2) rfl (by decide) (hG _ q_1_231) (fun _ h9 => h9) rfl dX0_write_37 ?_
  refine lv_iload_n hx hb dX0_write_40 rfl (lv_at hl 1 rfl) ?_
  obtain ⟨o19, h20, hf⟩ := gw_bind hf
  refine gw_Vi (As := [.int o8.2.1, .ref (ka K 16), .int o1.1]) (mc' := 4) (ms' := 24) F hW (mXX4_append_6_16 h20) (cwV 3 hts (gT_V q_6_25 q_6_26 q_6_27 q_1_6 q_6_28) rfl rfl rfl hdX4_append ⟨Nat.le_of_ble_eq_true rfl, Nat.le_of_ble_eq_true rfl⟩) 6 4 (aX_6 K o15.2) rfl rfl hl.1 rfl (Nat.le_of_ble_eq_true rfl) dX0_write_41 ⟨Nat.le_of_ble_eq_true rfl, Nat.le_of_ble_eq_true rfl⟩ rfl rfl (fun H locs hW => ?_)
  refine W.widen (k := rXX0_write_0.cells) (n := rXX0_write_0.slots) (Nat.le_of_ble_eq_true rfl) (Nat.le_of_ble_eq_true rfl) ?_
  cases hf
  exact gx_ret0 rfl (gw_reti F hW rfl dX0_write_44)
set_option maxHeartbeats 4000000 in
set_option maxRecDepth 100000 in
theorem mXX0_write_0 {l : Launch} (hl9 : l.stackTraces = false) {K : KX} {σ : XS} {x1 : Int32} {o : (Nat × Int32 × XS)} (hf : fXX0_write_0 (kn K) x1 σ = some o) : gx_Mi l (kD K) vwCl (tyX K) (wX K) yX0_write wsX0_write rXX0_write_0 [.ref (ka K 0), .int x1] σ o := by
  refine gx_body (cc := cX0_write) (maxL := 4) (yret := some .int) (by decide +kernel) rfl ?_ (Nat.le_of_ble_eq_true rfl)
  intro p e s m below meth c A F hT hZ hW ls hl
  exact wXX0_write_0_0 F hl9 hT hZ x1 σ o hf s.heap [] ls hl hW
abbrev rXX0_grow_0 : Room := { frames := 8, cells := 5, slots := 25, locals := 150 }
set_option maxHeartbeats 4000000 in
set_option maxRecDepth 100000 in
theorem wXX0_grow_0_21 {p : Program} {l : Launch} {e : Env} {s : State} {m : MethodId} {args : Array Value} {below : List Frame} {meth : Method} {c : Code} {A : Nat → Prop} {K : KX} (F : fx_ p s m args meth c cX0_grow 5 (some .int) RX0 wsX0_grow) (hl9 : l.stackTraces = false) (hT : ∀ x ∈ c.exceptionTable.toList, False) (hZ : xz_ A s) (σ : XS) (o : (Nat × Int32 × XS)) (hf : fXX0_grow_0_21 (kn K) σ = some o) (H : Heap) (locs : List Loc) (ls : Array Slot) (hl : lv_has ls 5 []) (hW : gw_ (kD K) vwCl (tyX K) (wX K) A s σ H locs) : W p l e rXX0_grow_0 s m args below meth c H locs 3 18 (gx_Q o.1 (MQ below (gw_Qi (kD K) vwCl (tyX K) (wX K) A o.2) args s rXX0_grow_0.cells rXX0_grow_0.slots A) (gx_T below (kD K) vwCl (tyX K) (wX K) A o.1 o.2.2 s rXX0_grow_0.cells rXX0_grow_0.slots)) (F0 m 21 ls []) := by
  have hx := F.1
  have hb := F.2.1
  have hml := F.2.2.2.1
  have hown := F.2.2.2.2.1
  have hts := F.2.2.2.2.2.1
  have hG : ∀ x ∈ gT, x.before args s = true := fun x h => hts x (List.mem_cons_of_mem _ h)
  unfold fXX0_grow_0_21 at hf
  cases hf
  exact gx_throw (k := 3) (text := "a file can't grow by so many bytes") F hl9 hT hZ hG hW (by decide) rfl (by decide +kernel) q_4_206 q_1_18 q_3_52 (List.mem_of_getElem? (i := 5) rfl) ow_3_109 hl.1 dX0_grow_21 dX0_grow_24 (Or.inr ⟨rfl, rfl⟩) dX0_grow_25 dX0_grow_28 dX0_grow_31 (Nat.le_of_ble_eq_true rfl) (Nat.le_of_ble_eq_true rfl) (Nat.le_of_ble_eq_true rfl) (Nat.le_of_ble_eq_true rfl) (Nat.le_of_ble_eq_true rfl) (Nat.le_of_ble_eq_true rfl)
set_option maxHeartbeats 4000000 in
set_option maxRecDepth 100000 in
theorem wXX0_grow_0_0 {p : Program} {l : Launch} {e : Env} {s : State} {m : MethodId} {args : Array Value} {below : List Frame} {meth : Method} {c : Code} {A : Nat → Prop} {K : KX} (F : fx_ p s m args meth c cX0_grow 5 (some .int) RX0 wsX0_grow) (hl9 : l.stackTraces = false) (hT : ∀ x ∈ c.exceptionTable.toList, False) (hZ : xz_ A s) (x1 : Int32) (x2 : Int32) (x3 : Int32) (σ : XS) (o : (Nat × Int32 × XS)) (hf : fXX0_grow_0_0 (kn K) x1 x2 x3 σ = some o) (H : Heap) (locs : List Loc) (ls : Array Slot) (hl : lv_has ls 5 [(0, .ref (ka K 0)), (1, .int x1), (2, .int x2), (3, .int x3)]) (hW : gw_ (kD K) vwCl (tyX K) (wX K) A s σ H locs) : W p l e rXX0_grow_0 s m args below meth c H locs 0 0 (gx_Q o.1 (MQ below (gw_Qi (kD K) vwCl (tyX K) (wX K) A o.2) args s rXX0_grow_0.cells rXX0_grow_0.slots A) (gx_T below (kD K) vwCl (tyX K) (wX K) A o.1 o.2.2 s rXX0_grow_0.cells rXX0_grow_0.slots)) (F0 m 0 ls []) := by
  have hx := F.1
  have hb := F.2.1
  have hml := F.2.2.2.1
  have hown := F.2.2.2.2.1
  have hts := F.2.2.2.2.2.1
  have hG : ∀ x ∈ gT, x.before args s = true := fun x h => hts x (List.mem_cons_of_mem _ h)
  unfold fXX0_grow_0_0 at hf
  refine lv_aload_n hx hb dX0_grow_0 rfl (lv_at hl 0 rfl) ?_
  refine lv_aload_n hx hb dX0_grow_1 rfl (lv_at hl 0 rfl) ?_
  refine lv_iload_n hx hb dX0_grow_2 rfl (lv_at hl 1 rfl) ?_
  obtain ⟨o10, h11, hf⟩ := gw_bind hf
  refine gx_Vi (As := [.int x1]) (mc' := 2) (ms' := 12) F hT hZ hW (mXX0_itemHere_0 hl9 h11) (cwV 1 hts (gT_V q_5_99 q_5_101 qp_29 q_1_1 q_5_102) rfl rfl rfl hdX0_itemHere ⟨Nat.le_of_ble_eq_true rfl, Nat.le_of_ble_eq_true rfl⟩) 0 0 (aX_0 K σ) rfl rfl hl.1 rfl (Nat.le_of_ble_eq_true rfl) dX0_grow_3 ⟨Nat.le_of_ble_eq_true rfl, Nat.le_of_ble_eq_true rfl⟩ rfl rfl (Nat.le_of_ble_eq_true rfl) (Nat.le_of_ble_eq_true rfl) (fun c13 => by replace hf := (if_neg c13).symm.trans hf; cases hf; exact ⟨rfl, rfl⟩) (fun c13 H locs hW => ?_)
  replace hf := (if_pos c13).symm.trans hf
  obtain ⟨o14, h15, hf⟩ := gw_bind hf
  refine gx_Vi (As := [.int o10.2.1]) (mc' := 3) (ms' := 18) F hT hZ hW (mXX0_fileAt_0 hl9 h15) (cwV 1 hts (gT_V q_6_15 q_6_17 qp_31 q_1_1 q_6_18) rfl rfl rfl hdX0_fileAt ⟨Nat.le_of_ble_eq_true rfl, Nat.le_of_ble_eq_true rfl⟩) 0 0 (aX_0 K o10.2.2) rfl rfl hl.1 rfl (Nat.le_of_ble_eq_true rfl) dX0_grow_6 ⟨Nat.le_of_ble_eq_true rfl, Nat.le_of_ble_eq_true rfl⟩ rfl rfl (Nat.le_of_ble_eq_true rfl) (Nat.le_of_ble_eq_true rfl) (fun c17 => by replace hf := (if_neg c17).symm.trans hf; cases hf; exact ⟨rfl, rfl⟩) (fun c17 H locs hW => ?_)
  replace hf := (if_pos c17).symm.trans hf
  refine lv_istore (lv' := [(4, .int o14.2.1), (0, .ref (ka K 0)), (1, .int x1), (2, .int x2), (3, .int x3)]) hx hb dX0_grow_9 hl (by decide) rfl (fun ls hl => ?_)
  refine lv_iload_n hx hb dX0_grow_11 rfl (lv_at hl 3 rfl) ?_
  refine lv_if_lt (tgt := 21) hx hb dX0_grow_12 (by decide) (fun c18 => ?_) (fun c18 => ?_)
  · replace hf := (if_pos c18).symm.trans hf
    exact wXX0_grow_0_21 F hl9 hT hZ _ _ hf _ _ _ (lv_sub hl [] rfl) hW
  · replace hf := (if_neg c18).symm.trans hf
    refine lv_iload_n hx hb dX0_grow_15 rfl (lv_at hl 3 rfl) ?_
    refine lv_ldc (own := RX0) (v := (400000 : Int32)) hx hb hown (hts _ (List.mem_cons_of_mem _ q_6_38)) dX0_grow_16 ?_
    refine lv_icmp_le (tgt := 32) hx hb dX0_grow_18 (by decide) (fun c19 => ?_) (fun c19 => ?_)
    · replace hf := (if_pos c19).symm.trans hf
      refine lv_aload_n hx hb dX0_grow_32 rfl (lv_at hl 1 rfl) ?_
      refine lv_aload_n hx hb dX0_grow_33 rfl (lv_at hl 1 rfl) ?_
      refine gw_get (v := .ref (ka K 6)) F inc_X0 hW 0 0 4 (aX_0 K o14.2.2) rfl (by decide) (hG _ q_1_227) (fun _ h9 => h9) rfl dX0_grow_34 ?_
      refine lv_iload hx hb dX0_grow_37 (lv_at hl 0 rfl) ?_
      refine lv_iload_n hx hb dX0_grow_39 rfl (lv_at hl 3 rfl) ?_
      obtain ⟨o20, h21, hf⟩ := gw_bind hf
      refine gw_Vi (As := [.int o14.2.1, .int x2]) (mc' := 3) (ms' := 18) F hW (mXX4_costOf_6 h21) (cwV 2 hts (gT_V q_5_206 q_5_207 q_5_208 q_1_6 q_5_209) rfl rfl rfl hdX4_costOf ⟨Nat.le_of_ble_eq_true rfl, Nat.le_of_ble_eq_true rfl⟩) 6 4 (aX_6 K o14.2.2) rfl rfl hl.1 rfl (Nat.le_of_ble_eq_true rfl) dX0_grow_40 ⟨Nat.le_of_ble_eq_true rfl, Nat.le_of_ble_eq_true rfl⟩ rfl rfl (fun H locs hW => ?_)
      obtain ⟨o23, h24, hf⟩ := gw_bind hf
      refine gx_Vv (As := [.int o20.1]) (mc' := 4) (ms' := 24) F hT hZ hW (mXX0_needBlocks_0 hl9 h24) (cwV 1 hts (gT_V q_6_20 q_6_22 qp_32 q_1_1 q_6_23) rfl rfl rfl hdX0_needBlocks ⟨Nat.le_of_ble_eq_true rfl, Nat.le_of_ble_eq_true rfl⟩) 0 0 (aX_0 K o20.2) rfl rfl hl.1 rfl (Nat.le_of_ble_eq_true rfl) dX0_grow_43 ⟨Nat.le_of_ble_eq_true rfl, Nat.le_of_ble_eq_true rfl⟩ rfl rfl (Nat.le_of_ble_eq_true rfl) (Nat.le_of_ble_eq_true rfl) (fun c26 => by replace hf := (if_neg c26).symm.trans hf; cases hf; exact ⟨rfl, rfl⟩) (fun c26 H locs hW => ?_)
      replace hf := (if_pos c26).symm.trans hf
      refine lv_aload_n hx hb dX0_grow_46 rfl (lv_at hl 1 rfl) ?_
      refine gw_get (v := .ref (ka K 6)) F inc_X0 hW 0 0 4 (aX_0 K o23.2) rfl (by decide) (hG _ q_1_227) (fun _ h9 => h9) rfl dX0_grow_47 ?_
      refine lv_iload hx hb dX0_grow_50 (lv_at hl 0 rfl) ?_
      have hC : gc_ (kD K) vwCl (tyX K) A s (wX K o23.2) H locs := hW
      refine gc_new (ci := 9) (mc' := 5) (ms' := 25) (fs := [.int 0]) F hC inc_X11 tyX11 tyX11_ok (hG _ q_6_40) (hG _ q_6_41) (hG _ q_1_31) rfl (fun j hj => by rcases (show j = 0 by omega) with rfl <;> rfl) (Nat.le_of_ble_eq_true rfl) (Nat.le_of_ble_eq_true rfl) dX0_grow_52 rfl rfl (fun q H hC => ?_)
      refine lv_dup hx hb dX0_grow_55 rfl ?_
      refine lv_iload_n hx hb dX0_grow_56 rfl (lv_at hl 4 rfl) ?_
      refine gc_I (As := [.int x3]) (mc' := 5) (ms' := 25) F hC (kPattern (x9 := x3)) (cwI 1 hts (gT_I q_6_44) rfl rfl rfl (hG _ q_1_31) (hG _ q_6_42) (hG _ q_6_43) rfl hdX11_init.2 ⟨(Nat.le_of_ble_eq_true rfl), (Nat.le_of_ble_eq_true rfl)⟩) rfl hl.1 rfl (Nat.le_of_ble_eq_true rfl) dX0_grow_57 ⟨(Nat.le_of_ble_eq_true rfl), (Nat.le_of_ble_eq_true rfl)⟩ rfl rfl (fun u H locs hC => ?_)
      have hW := pat_in (sd := x3) hC
      refine lv_iload_n hx hb dX0_grow_60 rfl (lv_at hl 3 rfl) ?_
      obtain ⟨o28, h27, hf⟩ := gw_bind hf
      refine gw_Vi (As := [.int o14.2.1, .ref q, .int x2]) (mc' := 5) (ms' := 25) F hW (mXX4_append_6_19 h27) (cwV 3 hts (gT_V q_6_25 q_6_26 q_6_27 q_1_6 q_6_28) rfl rfl rfl hdX4_append ⟨Nat.le_of_ble_eq_true rfl, Nat.le_of_ble_eq_true rfl⟩) 6 4 (aX_6 _ _) rfl rfl hl.1 rfl (Nat.le_of_ble_eq_true rfl) dX0_grow_61 ⟨(Nat.le_of_ble_eq_true rfl), (Nat.le_of_ble_eq_true rfl)⟩ rfl rfl (fun H locs hW => ?_)
      refine W.widen (k := rXX0_grow_0.cells) (n := rXX0_grow_0.slots) (Nat.le_of_ble_eq_true rfl) (Nat.le_of_ble_eq_true rfl) ?_
      cases hf
      exact gx_ret0 rfl (gw_reti F (pat_out hW) rfl dX0_grow_64)
    · replace hf := (if_neg c19).symm.trans hf
      exact wXX0_grow_0_21 F hl9 hT hZ _ _ hf _ _ _ (lv_sub hl [] rfl) hW
set_option maxHeartbeats 4000000 in
set_option maxRecDepth 100000 in
theorem mXX0_grow_0 {l : Launch} (hl9 : l.stackTraces = false) {K : KX} {σ : XS} {x1 : Int32} {x2 : Int32} {x3 : Int32} {o : (Nat × Int32 × XS)} (hf : fXX0_grow_0 (kn K) x1 x2 x3 σ = some o) : gx_Mi l (kD K) vwCl (tyX K) (wX K) yX0_grow wsX0_grow rXX0_grow_0 [.ref (ka K 0), .int x1, .int x2, .int x3] σ o := by
  refine gx_body (cc := cX0_grow) (maxL := 5) (yret := some .int) (by decide +kernel) rfl ?_ (Nat.le_of_ble_eq_true rfl)
  intro p e s m below meth c A F hT hZ hW ls hl
  exact wXX0_grow_0_0 F hl9 hT hZ x1 x2 x3 σ o hf s.heap [] ls hl hW
abbrev rXX0_cut_0 : Room := { frames := 8, cells := 4, slots := 24, locals := 143 }
set_option maxHeartbeats 4000000 in
set_option maxRecDepth 100000 in
theorem wXX0_cut_0_26 {p : Program} {l : Launch} {e : Env} {s : State} {m : MethodId} {args : Array Value} {below : List Frame} {meth : Method} {c : Code} {A : Nat → Prop} {K : KX} (F : fx_ p s m args meth c cX0_cut 4 (some .int) RX0 wsX0_cut) (hl9 : l.stackTraces = false) (hT : ∀ x ∈ c.exceptionTable.toList, False) (hZ : xz_ A s) (σ : XS) (o : (Nat × Int32 × XS)) (hf : fXX0_cut_0_26 (kn K) σ = some o) (H : Heap) (locs : List Loc) (ls : Array Slot) (hl : lv_has ls 4 []) (hW : gw_ (kD K) vwCl (tyX K) (wX K) A s σ H locs) : W p l e rXX0_cut_0 s m args below meth c H locs 3 18 (gx_Q o.1 (MQ below (gw_Qi (kD K) vwCl (tyX K) (wX K) A o.2) args s rXX0_cut_0.cells rXX0_cut_0.slots A) (gx_T below (kD K) vwCl (tyX K) (wX K) A o.1 o.2.2 s rXX0_cut_0.cells rXX0_cut_0.slots)) (F0 m 26 ls []) := by
  have hx := F.1
  have hb := F.2.1
  have hml := F.2.2.2.1
  have hown := F.2.2.2.2.1
  have hts := F.2.2.2.2.2.1
  have hG : ∀ x ∈ gT, x.before args s = true := fun x h => hts x (List.mem_cons_of_mem _ h)
  unfold fXX0_cut_0_26 at hf
  cases hf
  exact gx_throw (k := 3) (text := "the file has not so many bytes to keep") F hl9 hT hZ hG hW (by decide) rfl (by decide +kernel) q_4_206 q_1_18 q_3_52 (List.mem_of_getElem? (i := 6) rfl) ow_3_109 hl.1 dX0_cut_26 dX0_cut_29 (Or.inr ⟨rfl, rfl⟩) dX0_cut_30 dX0_cut_33 dX0_cut_36 (Nat.le_of_ble_eq_true rfl) (Nat.le_of_ble_eq_true rfl) (Nat.le_of_ble_eq_true rfl) (Nat.le_of_ble_eq_true rfl) (Nat.le_of_ble_eq_true rfl) (Nat.le_of_ble_eq_true rfl)
set_option maxHeartbeats 4000000 in
set_option maxRecDepth 100000 in
theorem wXX0_cut_0_0 {p : Program} {l : Launch} {e : Env} {s : State} {m : MethodId} {args : Array Value} {below : List Frame} {meth : Method} {c : Code} {A : Nat → Prop} {K : KX} (F : fx_ p s m args meth c cX0_cut 4 (some .int) RX0 wsX0_cut) (hl9 : l.stackTraces = false) (hT : ∀ x ∈ c.exceptionTable.toList, False) (hZ : xz_ A s) (x1 : Int32) (x2 : Int32) (σ : XS) (o : (Nat × Int32 × XS)) (hf : fXX0_cut_0_0 (kn K) x1 x2 σ = some o) (H : Heap) (locs : List Loc) (ls : Array Slot) (hl : lv_has ls 4 [(0, .ref (ka K 0)), (1, .int x1), (2, .int x2)]) (hW : gw_ (kD K) vwCl (tyX K) (wX K) A s σ H locs) : W p l e rXX0_cut_0 s m args below meth c H locs 0 0 (gx_Q o.1 (MQ below (gw_Qi (kD K) vwCl (tyX K) (wX K) A o.2) args s rXX0_cut_0.cells rXX0_cut_0.slots A) (gx_T below (kD K) vwCl (tyX K) (wX K) A o.1 o.2.2 s rXX0_cut_0.cells rXX0_cut_0.slots)) (F0 m 0 ls []) := by
  have hx := F.1
  have hb := F.2.1
  have hml := F.2.2.2.1
  have hown := F.2.2.2.2.1
  have hts := F.2.2.2.2.2.1
  have hG : ∀ x ∈ gT, x.before args s = true := fun x h => hts x (List.mem_cons_of_mem _ h)
  unfold fXX0_cut_0_0 at hf
  refine lv_aload_n hx hb dX0_cut_0 rfl (lv_at hl 0 rfl) ?_
  refine lv_aload_n hx hb dX0_cut_1 rfl (lv_at hl 0 rfl) ?_
  refine lv_iload_n hx hb dX0_cut_2 rfl (lv_at hl 1 rfl) ?_
  obtain ⟨o10, h11, hf⟩ := gw_bind hf
  refine gx_Vi (As := [.int x1]) (mc' := 2) (ms' := 12) F hT hZ hW (mXX0_itemHere_0 hl9 h11) (cwV 1 hts (gT_V q_5_99 q_5_101 qp_29 q_1_1 q_5_102) rfl rfl rfl hdX0_itemHere ⟨Nat.le_of_ble_eq_true rfl, Nat.le_of_ble_eq_true rfl⟩) 0 0 (aX_0 K σ) rfl rfl hl.1 rfl (Nat.le_of_ble_eq_true rfl) dX0_cut_3 ⟨Nat.le_of_ble_eq_true rfl, Nat.le_of_ble_eq_true rfl⟩ rfl rfl (Nat.le_of_ble_eq_true rfl) (Nat.le_of_ble_eq_true rfl) (fun c13 => by replace hf := (if_neg c13).symm.trans hf; cases hf; exact ⟨rfl, rfl⟩) (fun c13 H locs hW => ?_)
  replace hf := (if_pos c13).symm.trans hf
  obtain ⟨o14, h15, hf⟩ := gw_bind hf
  refine gx_Vi (As := [.int o10.2.1]) (mc' := 3) (ms' := 18) F hT hZ hW (mXX0_fileAt_0 hl9 h15) (cwV 1 hts (gT_V q_6_15 q_6_17 qp_31 q_1_1 q_6_18) rfl rfl rfl hdX0_fileAt ⟨Nat.le_of_ble_eq_true rfl, Nat.le_of_ble_eq_true rfl⟩) 0 0 (aX_0 K o10.2.2) rfl rfl hl.1 rfl (Nat.le_of_ble_eq_true rfl) dX0_cut_6 ⟨Nat.le_of_ble_eq_true rfl, Nat.le_of_ble_eq_true rfl⟩ rfl rfl (Nat.le_of_ble_eq_true rfl) (Nat.le_of_ble_eq_true rfl) (fun c17 => by replace hf := (if_neg c17).symm.trans hf; cases hf; exact ⟨rfl, rfl⟩) (fun c17 H locs hW => ?_)
  replace hf := (if_pos c17).symm.trans hf
  refine lv_istore_n (lv' := [(3, .int o14.2.1), (0, .ref (ka K 0)), (1, .int x1), (2, .int x2)]) hx hb dX0_cut_9 rfl hl (by decide) rfl (fun ls hl => ?_)
  refine lv_iload_n hx hb dX0_cut_10 rfl (lv_at hl 3 rfl) ?_
  refine lv_if_lt (tgt := 26) hx hb dX0_cut_11 (by decide) (fun c18 => ?_) (fun c18 => ?_)
  · replace hf := (if_pos c18).symm.trans hf
    exact wXX0_cut_0_26 F hl9 hT hZ _ _ hf _ _ _ (lv_sub hl [] rfl) hW
  · replace hf := (if_neg c18).symm.trans hf
    refine lv_iload_n hx hb dX0_cut_14 rfl (lv_at hl 3 rfl) ?_
    refine lv_aload_n hx hb dX0_cut_15 rfl (lv_at hl 1 rfl) ?_
    refine gw_get (v := .ref (ka K 6)) F inc_X0 hW 0 0 4 (aX_0 K o14.2.2) rfl (by decide) (hG _ q_1_227) (fun _ h9 => h9) rfl dX0_cut_16 ?_
    refine lv_iload_n hx hb dX0_cut_19 rfl (lv_at hl 0 rfl) ?_
    obtain ⟨o19, h20, hf⟩ := gw_bind hf
    refine gw_Vi (As := [.int o14.2.1]) (mc' := 3) (ms' := 18) F hW (mXX4_size_6 h20) (cwV 1 hts (gT_V q_5_130 q_2_154 q_2_155 q_1_6 q_2_156) rfl rfl rfl hdX4_size ⟨Nat.le_of_ble_eq_true rfl, Nat.le_of_ble_eq_true rfl⟩) 6 4 (aX_6 K o14.2.2) rfl rfl hl.1 rfl (Nat.le_of_ble_eq_true rfl) dX0_cut_20 ⟨Nat.le_of_ble_eq_true rfl, Nat.le_of_ble_eq_true rfl⟩ rfl rfl (fun H locs hW => ?_)
    refine lv_icmp_le (tgt := 37) hx hb dX0_cut_23 (by decide) (fun c22 => ?_) (fun c22 => ?_)
    · replace hf := (if_pos c22).symm.trans hf
      refine lv_aload_n hx hb dX0_cut_37 rfl (lv_at hl 1 rfl) ?_
      refine gw_get (v := .ref (ka K 6)) F inc_X0 hW 0 0 4 (aX_0 K o19.2) rfl (by decide) (hG _ q_1_227) (fun _ h9 => h9) rfl dX0_cut_38 ?_
      refine lv_iload_n hx hb dX0_cut_41 rfl (lv_at hl 0 rfl) ?_
      refine lv_iload_n hx hb dX0_cut_42 rfl (lv_at hl 3 rfl) ?_
      obtain ⟨o23, h24, hf⟩ := gw_bind hf
      refine gw_Vi (As := [.int o14.2.1, .int x2]) (mc' := 3) (ms' := 18) F hW (mXX4_shorten_6 h24) (cwV 2 hts (gT_V q_6_58 q_6_59 q_6_60 q_1_6 q_6_61) rfl rfl rfl hdX4_shorten ⟨Nat.le_of_ble_eq_true rfl, Nat.le_of_ble_eq_true rfl⟩) 6 4 (aX_6 K o19.2) rfl rfl hl.1 rfl (Nat.le_of_ble_eq_true rfl) dX0_cut_43 ⟨Nat.le_of_ble_eq_true rfl, Nat.le_of_ble_eq_true rfl⟩ rfl rfl (fun H locs hW => ?_)
      refine W.widen (k := rXX0_cut_0.cells) (n := rXX0_cut_0.slots) (Nat.le_of_ble_eq_true rfl) (Nat.le_of_ble_eq_true rfl) ?_
      cases hf
      exact gx_ret0 rfl (gw_reti F hW rfl dX0_cut_46)
    · replace hf := (if_neg c22).symm.trans hf
      exact wXX0_cut_0_26 F hl9 hT hZ _ _ hf _ _ _ (lv_sub hl [] rfl) hW
set_option maxHeartbeats 4000000 in
set_option maxRecDepth 100000 in
theorem mXX0_cut_0 {l : Launch} (hl9 : l.stackTraces = false) {K : KX} {σ : XS} {x1 : Int32} {x2 : Int32} {o : (Nat × Int32 × XS)} (hf : fXX0_cut_0 (kn K) x1 x2 σ = some o) : gx_Mi l (kD K) vwCl (tyX K) (wX K) yX0_cut wsX0_cut rXX0_cut_0 [.ref (ka K 0), .int x1, .int x2] σ o := by
  refine gx_body (cc := cX0_cut) (maxL := 4) (yret := some .int) (by decide +kernel) rfl ?_ (Nat.le_of_ble_eq_true rfl)
  intro p e s m below meth c A F hT hZ hW ls hl
  exact wXX0_cut_0_0 F hl9 hT hZ x1 x2 σ o hf s.heap [] ls hl hW
abbrev rXX0_remove_0 : Room := { frames := 8, cells := 3, slots := 18, locals := 143 }
set_option maxHeartbeats 4000000 in
set_option maxRecDepth 100000 in
theorem wXX0_remove_0_91 {p : Program} {l : Launch} {e : Env} {s : State} {m : MethodId} {args : Array Value} {below : List Frame} {meth : Method} {c : Code} {A : Nat → Prop} {K : KX} (F : fx_ p s m args meth c cX0_remove 5 none RX0 wsX0_remove) (hl9 : l.stackTraces = false) (hT : ∀ x ∈ c.exceptionTable.toList, False) (hZ : xz_ A s) (x2 : Int32) (x3 : Int32) (σ : XS) (o : (Nat × XS)) (hf : fXX0_remove_0_91 (kn K) x2 x3 σ = some o) (H : Heap) (locs : List Loc) (ls : Array Slot) (hl : lv_has ls 5 [(0, .ref (ka K 0)), (2, .int x2), (3, .int x3)]) (hW : gw_ (kD K) vwCl (tyX K) (wX K) A s σ H locs) : W p l e rXX0_remove_0 s m args below meth c H locs 2 12 (gx_Q o.1 (MQ below (gw_Qv (kD K) vwCl (tyX K) (wX K) A o.2) args s rXX0_remove_0.cells rXX0_remove_0.slots A) (gx_T below (kD K) vwCl (tyX K) (wX K) A o.1 o.2 s rXX0_remove_0.cells rXX0_remove_0.slots)) (F0 m 91 ls []) := by
  have hx := F.1
  have hb := F.2.1
  have hml := F.2.2.2.1
  have hown := F.2.2.2.2.1
  have hts := F.2.2.2.2.2.1
  have hG : ∀ x ∈ gT, x.before args s = true := fun x h => hts x (List.mem_cons_of_mem _ h)
  unfold fXX0_remove_0_91 at hf
  refine lv_aload_n hx hb dX0_remove_91 rfl (lv_at hl 0 rfl) ?_
  refine gw_get (v := .ref (ka K 7)) F inc_X0 hW 0 0 5 (aX_0 K σ) rfl (by decide) (hG _ q_1_228) (fun _ h9 => h9) rfl dX0_remove_92 ?_
  refine lv_iload_n hx hb dX0_remove_95 rfl (lv_at hl 1 rfl) ?_
  obtain ⟨o23, h24, hf⟩ := gw_bind hf
  refine gw_Vv (As := [.int x2]) (mc' := 2) (ms' := 12) F hW (mXX5_drop_7 h24) (cwV 1 hts (gT_V q_6_84 q_6_85 q_6_86 q_1_7 q_6_87) rfl rfl rfl hdX5_drop ⟨Nat.le_of_ble_eq_true rfl, Nat.le_of_ble_eq_true rfl⟩) 7 5 (aX_7 K σ) rfl rfl hl.1 rfl (Nat.le_of_ble_eq_true rfl) dX0_remove_96 ⟨Nat.le_of_ble_eq_true rfl, Nat.le_of_ble_eq_true rfl⟩ rfl rfl (fun H locs hW => ?_)
  refine lv_aload_n hx hb dX0_remove_99 rfl (lv_at hl 0 rfl) ?_
  refine gw_get (v := .ref (ka K 6)) F inc_X0 hW 0 0 4 (aX_0 K o23) rfl (by decide) (hG _ q_1_227) (fun _ h9 => h9) rfl dX0_remove_100 ?_
  refine lv_iload_n hx hb dX0_remove_103 rfl (lv_at hl 2 rfl) ?_
  refine lv_iconst (v := (0 : Int32)) hx hb dX0_remove_104 (by decide) ?_
  obtain ⟨o26, h27, hf⟩ := gw_bind hf
  refine gw_Vi (As := [.int x3, .int (0 : Int32)]) (mc' := 2) (ms' := 12) F hW (mXX4_shorten_6 h27) (cwV 2 hts (gT_V q_6_58 q_6_59 q_6_60 q_1_6 q_6_61) rfl rfl rfl hdX4_shorten ⟨Nat.le_of_ble_eq_true rfl, Nat.le_of_ble_eq_true rfl⟩) 6 4 (aX_6 K o23) rfl rfl hl.1 rfl (Nat.le_of_ble_eq_true rfl) dX0_remove_105 ⟨Nat.le_of_ble_eq_true rfl, Nat.le_of_ble_eq_true rfl⟩ rfl rfl (fun H locs hW => ?_)
  refine lv_pop hx hb dX0_remove_108 rfl ?_
  refine lv_aload_n hx hb dX0_remove_109 rfl (lv_at hl 0 rfl) ?_
  refine gw_get (v := .ref (ka K 6)) F inc_X0 hW 0 0 4 (aX_0 K o26.2) rfl (by decide) (hG _ q_1_227) (fun _ h9 => h9) rfl dX0_remove_110 ?_
  refine lv_iload_n hx hb dX0_remove_113 rfl (lv_at hl 2 rfl) ?_
  obtain ⟨o29, h30, hf⟩ := gw_bind hf
  refine gw_Vv (As := [.int x3]) (mc' := 2) (ms' := 12) F hW (mXX4_erase_6 h30) (cwV 1 hts (gT_V q_6_88 q_6_89 q_6_90 q_1_6 q_6_91) rfl rfl rfl hdX4_erase ⟨Nat.le_of_ble_eq_true rfl, Nat.le_of_ble_eq_true rfl⟩) 6 4 (aX_6 K o26.2) rfl rfl hl.1 rfl (Nat.le_of_ble_eq_true rfl) dX0_remove_114 ⟨Nat.le_of_ble_eq_true rfl, Nat.le_of_ble_eq_true rfl⟩ rfl rfl (fun H locs hW => ?_)
  refine lv_aload_n hx hb dX0_remove_117 rfl (lv_at hl 0 rfl) ?_
  refine gw_get (v := .ref (ka K 5)) F inc_X0 hW 0 0 3 (aX_0 K o29) rfl (by decide) (hG _ q_1_226) (fun _ h9 => h9) rfl dX0_remove_118 ?_
  refine lv_iload_n hx hb dX0_remove_121 rfl (lv_at hl 2 rfl) ?_
  obtain ⟨o32, h33, hf⟩ := gw_bind hf
  refine gw_Vv (As := [.int x3]) (mc' := 2) (ms' := 12) F hW (mXX3_giveBack_5 h33) (cwV 1 hts (gT_V q_6_92 q_6_72 q_6_73 q_1_5 q_6_74) rfl rfl rfl hdX3_giveBack ⟨Nat.le_of_ble_eq_true rfl, Nat.le_of_ble_eq_true rfl⟩) 5 3 (aX_5 K o29) rfl rfl hl.1 rfl (Nat.le_of_ble_eq_true rfl) dX0_remove_122 ⟨Nat.le_of_ble_eq_true rfl, Nat.le_of_ble_eq_true rfl⟩ rfl rfl (fun H locs hW => ?_)
  refine W.widen (k := rXX0_remove_0.cells) (n := rXX0_remove_0.slots) (Nat.le_of_ble_eq_true rfl) (Nat.le_of_ble_eq_true rfl) ?_
  cases hf
  exact gx_ret0 rfl (gw_retv F hW rfl dX0_remove_125)
set_option maxHeartbeats 4000000 in
set_option maxRecDepth 100000 in
theorem wXX0_remove_0_0 {p : Program} {l : Launch} {e : Env} {s : State} {m : MethodId} {args : Array Value} {below : List Frame} {meth : Method} {c : Code} {A : Nat → Prop} {K : KX} (F : fx_ p s m args meth c cX0_remove 5 none RX0 wsX0_remove) (hl9 : l.stackTraces = false) (hT : ∀ x ∈ c.exceptionTable.toList, False) (hZ : xz_ A s) (x1 : Int32) (σ : XS) (o : (Nat × XS)) (hf : fXX0_remove_0_0 (kn K) x1 σ = some o) (H : Heap) (locs : List Loc) (ls : Array Slot) (hl : lv_has ls 5 [(0, .ref (ka K 0)), (1, .int x1)]) (hW : gw_ (kD K) vwCl (tyX K) (wX K) A s σ H locs) : W p l e rXX0_remove_0 s m args below meth c H locs 0 0 (gx_Q o.1 (MQ below (gw_Qv (kD K) vwCl (tyX K) (wX K) A o.2) args s rXX0_remove_0.cells rXX0_remove_0.slots A) (gx_T below (kD K) vwCl (tyX K) (wX K) A o.1 o.2 s rXX0_remove_0.cells rXX0_remove_0.slots)) (F0 m 0 ls []) := by
  have hx := F.1
  have hb := F.2.1
  have hml := F.2.2.2.1
  have hown := F.2.2.2.2.1
  have hts := F.2.2.2.2.2.1
  have hG : ∀ x ∈ gT, x.before args s = true := fun x h => hts x (List.mem_cons_of_mem _ h)
  unfold fXX0_remove_0_0 at hf
  refine lv_aload_n hx hb dX0_remove_0 rfl (lv_at hl 0 rfl) ?_
  refine lv_iload_n hx hb dX0_remove_1 rfl (lv_at hl 1 rfl) ?_
  obtain ⟨o12, h13, hf⟩ := gw_bind hf
  refine gx_Vi (As := [.int x1]) (mc' := 2) (ms' := 12) F hT hZ hW (mXX0_itemHere_0 hl9 h13) (cwV 1 hts (gT_V q_5_99 q_5_101 qp_29 q_1_1 q_5_102) rfl rfl rfl hdX0_itemHere ⟨Nat.le_of_ble_eq_true rfl, Nat.le_of_ble_eq_true rfl⟩) 0 0 (aX_0 K σ) rfl rfl hl.1 rfl (Nat.le_of_ble_eq_true rfl) dX0_remove_2 ⟨Nat.le_of_ble_eq_true rfl, Nat.le_of_ble_eq_true rfl⟩ rfl rfl (Nat.le_of_ble_eq_true rfl) (Nat.le_of_ble_eq_true rfl) (fun c15 => by replace hf := (if_neg c15).symm.trans hf; cases hf; exact ⟨rfl, rfl⟩) (fun c15 H locs hW => ?_)
  replace hf := (if_pos c15).symm.trans hf
  refine lv_istore_n (lv' := [(2, .int o12.2.1), (0, .ref (ka K 0)), (1, .int x1)]) hx hb dX0_remove_5 rfl hl (by decide) rfl (fun ls hl => ?_)
  refine lv_aload_n hx hb dX0_remove_6 rfl (lv_at hl 1 rfl) ?_
  refine gw_get (v := .ref (ka K 7)) F inc_X0 hW 0 0 5 (aX_0 K o12.2.2) rfl (by decide) (hG _ q_1_228) (fun _ h9 => h9) rfl dX0_remove_7 ?_
  refine lv_iload_n hx hb dX0_remove_10 rfl (lv_at hl 0 rfl) ?_
  obtain ⟨o16, h17, hf⟩ := gw_bind hf
  refine gw_Vi (As := [.int o12.2.1]) (mc' := 2) (ms' := 12) F hW (mXX5_inodeOf_7 h17) (cwV 1 hts (gT_V q_5_128 q_2_193 q_2_194 q_1_7 q_2_195) rfl rfl rfl hdX5_inodeOf ⟨Nat.le_of_ble_eq_true rfl, Nat.le_of_ble_eq_true rfl⟩) 7 5 (aX_7 K o12.2.2) rfl rfl hl.1 rfl (Nat.le_of_ble_eq_true rfl) dX0_remove_11 ⟨Nat.le_of_ble_eq_true rfl, Nat.le_of_ble_eq_true rfl⟩ rfl rfl (fun H locs hW => ?_)
  refine lv_istore_n (lv' := [(3, .int o16.1), (2, .int o12.2.1), (0, .ref (ka K 0)), (1, .int x1)]) hx hb dX0_remove_14 rfl hl (by decide) rfl (fun ls hl => ?_)
  refine lv_aload_n hx hb dX0_remove_15 rfl (lv_at hl 2 rfl) ?_
  refine gw_get (v := .ref (ka K 6)) F inc_X0 hW 0 0 4 (aX_0 K o16.2) rfl (by decide) (hG _ q_1_227) (fun _ h9 => h9) rfl dX0_remove_16 ?_
  refine lv_iload_n hx hb dX0_remove_19 rfl (lv_at hl 0 rfl) ?_
  obtain ⟨o19, h20, hf⟩ := gw_bind hf
  refine gw_Vz (As := [.int o16.1]) (mc' := 2) (ms' := 12) F hW (mXX4_isDirectory_6 h20) (cwV 1 hts (gT_V q_5_129 q_2_144 q_2_145 q_1_6 q_2_146) rfl rfl rfl hdX4_isDirectory ⟨Nat.le_of_ble_eq_true rfl, Nat.le_of_ble_eq_true rfl⟩) 6 4 (aX_6 K o16.2) rfl rfl hl.1 rfl (Nat.le_of_ble_eq_true rfl) dX0_remove_20 ⟨Nat.le_of_ble_eq_true rfl, Nat.le_of_ble_eq_true rfl⟩ rfl rfl (fun H locs z21 hW => ?_)
  refine lv_istore (lv' := [(4, .int o19.1), (3, .int o16.1), (2, .int o12.2.1), (0, .ref (ka K 0)), (1, .int x1)]) hx hb dX0_remove_23 hl (by decide) rfl (fun ls hl => ?_)
  refine lv_iload hx hb dX0_remove_25 (lv_at hl 0 rfl) ?_
  refine lv_if_eq (tgt := 91) hx hb dX0_remove_27 (by decide) (fun c22 => ?_) (fun c22 => ?_)
  · replace hf := (if_pos c22).symm.trans hf
    exact wXX0_remove_0_91 F hl9 hT hZ o12.2.1 o16.1 _ _ hf _ _ _ (lv_sub hl [3, 2, 1] rfl) hW
  · replace hf := (if_neg c22).symm.trans hf
    refine lv_aload_n hx hb dX0_remove_30 rfl (lv_at hl 3 rfl) ?_
    refine gw_get (v := .ref (ka K 7)) F inc_X0 hW 0 0 5 (aX_0 K o19.2) rfl (by decide) (hG _ q_1_228) (fun _ h9 => h9) rfl dX0_remove_31 ?_
    refine lv_iload_n hx hb dX0_remove_34 rfl (lv_at hl 1 rfl) ?_
    obtain ⟨o35, h36, hf⟩ := gw_bind hf
    refine gw_Vv (As := [.int o16.1]) (mc' := 2) (ms' := 12) F hW (mXX5_read_7 h36) (cwV 1 hts (gT_V q_5_86 q_2_150 q_2_151 q_1_7 q_2_152) rfl rfl rfl hdX5_read ⟨Nat.le_of_ble_eq_true rfl, Nat.le_of_ble_eq_true rfl⟩) 7 5 (aX_7 K o19.2) rfl rfl hl.1 rfl (Nat.le_of_ble_eq_true rfl) dX0_remove_35 ⟨Nat.le_of_ble_eq_true rfl, Nat.le_of_ble_eq_true rfl⟩ rfl rfl (fun H locs hW => ?_)
    refine lv_aload_n hx hb dX0_remove_38 rfl (lv_at hl 3 rfl) ?_
    refine gw_get (v := .ref (ka K 7)) F inc_X0 hW 0 0 5 (aX_0 K o35) rfl (by decide) (hG _ q_1_228) (fun _ h9 => h9) rfl dX0_remove_39 ?_
    obtain ⟨o38, h39, hf⟩ := gw_bind hf
    refine gw_Vi (As := []) (mc' := 2) (ms' := 12) F hW (mXX5_itemCount_7 h39) (cwV 0 hts (gT_V q_5_87 q_5_88 q_5_89 q_1_7 q_5_90) rfl rfl rfl hdX5_itemCount ⟨Nat.le_of_ble_eq_true rfl, Nat.le_of_ble_eq_true rfl⟩) 7 5 (aX_7 K o35) rfl rfl hl.1 rfl (Nat.le_of_ble_eq_true rfl) dX0_remove_42 ⟨Nat.le_of_ble_eq_true rfl, Nat.le_of_ble_eq_true rfl⟩ rfl rfl (fun H locs hW => ?_)
    refine lv_if_le (tgt := 59) hx hb dX0_remove_45 (by decide) (fun c41 => ?_) (fun c41 => ?_)
    · replace hf := (if_pos c41).symm.trans hf
      refine lv_aload_n hx hb dX0_remove_59 rfl (lv_at hl 3 rfl) ?_
      refine gw_get (v := .ref (ka K 7)) F inc_X0 hW 0 0 5 (aX_0 K o38.2) rfl (by decide) (hG _ q_1_228) (fun _ h9 => h9) rfl dX0_remove_60 ?_
      refine lv_aload_n hx hb dX0_remove_63 rfl (lv_at hl 3 rfl) ?_
      refine gw_get (v := .int (o38.2.1 1)) F inc_X0 hW 0 0 10 (aX_0 K o38.2) rfl (by decide) (hG _ q_1_233) (fun _ h9 => h9) rfl dX0_remove_64 ?_
      obtain ⟨o42, h43, hf⟩ := gw_bind hf
      refine gw_Vv (As := [.int (o38.2.1 1)]) (mc' := 2) (ms' := 12) F hW (mXX5_read_7 h43) (cwV 1 hts (gT_V q_5_86 q_2_150 q_2_151 q_1_7 q_2_152) rfl rfl rfl hdX5_read ⟨Nat.le_of_ble_eq_true rfl, Nat.le_of_ble_eq_true rfl⟩) 7 5 (aX_7 K o38.2) rfl rfl hl.1 rfl (Nat.le_of_ble_eq_true rfl) dX0_remove_67 ⟨Nat.le_of_ble_eq_true rfl, Nat.le_of_ble_eq_true rfl⟩ rfl rfl (fun H locs hW => ?_)
      refine lv_aload_n hx hb dX0_remove_70 rfl (lv_at hl 3 rfl) ?_
      refine gw_get (v := .ref (ka K 6)) F inc_X0 hW 0 0 4 (aX_0 K o42) rfl (by decide) (hG _ q_1_227) (fun _ h9 => h9) rfl dX0_remove_71 ?_
      refine lv_aload_n hx hb dX0_remove_74 rfl (lv_at hl 3 rfl) ?_
      refine gw_get (v := .int (o42.1 1)) F inc_X0 hW 0 0 10 (aX_0 K o42) rfl (by decide) (hG _ q_1_233) (fun _ h9 => h9) rfl dX0_remove_75 ?_
      refine lv_iconst (v := (-1 : Int32)) hx hb dX0_remove_78 (by decide) ?_
      obtain ⟨o45, h46, hf⟩ := gw_bind hf
      refine gw_Vv (As := [.int (o42.1 1), .int (-1 : Int32)]) (mc' := 2) (ms' := 12) F hW (mXX4_addLinks_6 h46) (cwV 2 hts (gT_V q_6_0 q_6_1 q_6_2 q_1_6 q_6_3) rfl rfl rfl hdX4_addLinks ⟨Nat.le_of_ble_eq_true rfl, Nat.le_of_ble_eq_true rfl⟩) 6 4 (aX_6 K o42) rfl rfl hl.1 rfl (Nat.le_of_ble_eq_true rfl) dX0_remove_79 ⟨Nat.le_of_ble_eq_true rfl, Nat.le_of_ble_eq_true rfl⟩ rfl rfl (fun H locs hW => ?_)
      refine lv_aload_n hx hb dX0_remove_82 rfl (lv_at hl 3 rfl) ?_
      refine gw_get (v := .ref (ka K 6)) F inc_X0 hW 0 0 4 (aX_0 K o45) rfl (by decide) (hG _ q_1_227) (fun _ h9 => h9) rfl dX0_remove_83 ?_
      refine lv_iload_n hx hb dX0_remove_86 rfl (lv_at hl 1 rfl) ?_
      refine lv_iconst (v := (-1 : Int32)) hx hb dX0_remove_87 (by decide) ?_
      obtain ⟨o48, h49, hf⟩ := gw_bind hf
      refine gw_Vv (As := [.int o16.1, .int (-1 : Int32)]) (mc' := 2) (ms' := 12) F hW (mXX4_countDirectories_6 h49) (cwV 2 hts (gT_V q_5_13 q_5_14 q_5_15 q_1_6 q_5_16) rfl rfl rfl hdX4_countDirectories ⟨Nat.le_of_ble_eq_true rfl, Nat.le_of_ble_eq_true rfl⟩) 6 4 (aX_6 K o45) rfl rfl hl.1 rfl (Nat.le_of_ble_eq_true rfl) dX0_remove_88 ⟨Nat.le_of_ble_eq_true rfl, Nat.le_of_ble_eq_true rfl⟩ rfl rfl (fun H locs hW => ?_)
      exact wXX0_remove_0_91 F hl9 hT hZ o12.2.1 o16.1 _ _ hf _ _ _ (lv_sub hl [3, 2, 1] rfl) hW
    · replace hf := (if_neg c41).symm.trans hf
      cases hf
      exact gx_throw (k := 3) (text := "the directory has items") F hl9 hT hZ hG hW (by decide) rfl (by decide +kernel) q_4_206 q_1_18 q_3_52 (List.mem_of_getElem? (i := 7) rfl) ow_3_109 hl.1 dX0_remove_48 dX0_remove_51 (Or.inr ⟨rfl, rfl⟩) dX0_remove_52 dX0_remove_55 dX0_remove_58 (Nat.le_of_ble_eq_true rfl) (Nat.le_of_ble_eq_true rfl) (Nat.le_of_ble_eq_true rfl) (Nat.le_of_ble_eq_true rfl) (Nat.le_of_ble_eq_true rfl) (Nat.le_of_ble_eq_true rfl)
set_option maxHeartbeats 4000000 in
set_option maxRecDepth 100000 in
theorem mXX0_remove_0 {l : Launch} (hl9 : l.stackTraces = false) {K : KX} {σ : XS} {x1 : Int32} {o : (Nat × XS)} (hf : fXX0_remove_0 (kn K) x1 σ = some o) : gx_Mv l (kD K) vwCl (tyX K) (wX K) yX0_remove wsX0_remove rXX0_remove_0 [.ref (ka K 0), .int x1] σ o := by
  refine gx_body (cc := cX0_remove) (maxL := 5) (yret := none) (by decide +kernel) rfl ?_ (Nat.le_of_ble_eq_true rfl)
  intro p e s m below meth c A F hT hZ hW ls hl
  exact wXX0_remove_0_0 F hl9 hT hZ x1 σ o hf s.heap [] ls hl hW
abbrev rXX0_stamp_0 : Room := { frames := 8, cells := 3, slots := 18, locals := 133 }
set_option maxHeartbeats 4000000 in
set_option maxRecDepth 100000 in
theorem wXX0_stamp_0_23 {p : Program} {l : Launch} {e : Env} {s : State} {m : MethodId} {args : Array Value} {below : List Frame} {meth : Method} {c : Code} {A : Nat → Prop} {K : KX} (F : fx_ p s m args meth c cX0_stamp 6 none RX0 wsX0_stamp) (hl9 : l.stackTraces = false) (hT : ∀ x ∈ c.exceptionTable.toList, False) (hZ : xz_ A s) (σ : XS) (o : (Nat × XS)) (hf : fXX0_stamp_0_23 (kn K) σ = some o) (H : Heap) (locs : List Loc) (ls : Array Slot) (hl : lv_has ls 6 []) (hW : gw_ (kD K) vwCl (tyX K) (wX K) A s σ H locs) : W p l e rXX0_stamp_0 s m args below meth c H locs 2 12 (gx_Q o.1 (MQ below (gw_Qv (kD K) vwCl (tyX K) (wX K) A o.2) args s rXX0_stamp_0.cells rXX0_stamp_0.slots A) (gx_T below (kD K) vwCl (tyX K) (wX K) A o.1 o.2 s rXX0_stamp_0.cells rXX0_stamp_0.slots)) (F0 m 23 ls []) := by
  have hx := F.1
  have hb := F.2.1
  have hml := F.2.2.2.1
  have hown := F.2.2.2.2.1
  have hts := F.2.2.2.2.2.1
  have hG : ∀ x ∈ gT, x.before args s = true := fun x h => hts x (List.mem_cons_of_mem _ h)
  unfold fXX0_stamp_0_23 at hf
  cases hf
  exact gx_throw (k := 3) (text := "an item has three times") F hl9 hT hZ hG hW (by decide) rfl (by decide +kernel) q_4_206 q_1_18 q_3_52 (List.mem_of_getElem? (i := 8) rfl) ow_3_109 hl.1 dX0_stamp_23 dX0_stamp_26 (Or.inr ⟨rfl, rfl⟩) dX0_stamp_27 dX0_stamp_30 dX0_stamp_33 (Nat.le_of_ble_eq_true rfl) (Nat.le_of_ble_eq_true rfl) (Nat.le_of_ble_eq_true rfl) (Nat.le_of_ble_eq_true rfl) (Nat.le_of_ble_eq_true rfl) (Nat.le_of_ble_eq_true rfl)
set_option maxHeartbeats 4000000 in
set_option maxRecDepth 100000 in
theorem wXX0_stamp_0_0 {p : Program} {l : Launch} {e : Env} {s : State} {m : MethodId} {args : Array Value} {below : List Frame} {meth : Method} {c : Code} {A : Nat → Prop} {K : KX} (F : fx_ p s m args meth c cX0_stamp 6 none RX0 wsX0_stamp) (hl9 : l.stackTraces = false) (hT : ∀ x ∈ c.exceptionTable.toList, False) (hZ : xz_ A s) (x1 : Int32) (x2 : Int32) (x3 : Int64) (σ : XS) (o : (Nat × XS)) (hf : fXX0_stamp_0_0 (kn K) x1 x2 x3 σ = some o) (H : Heap) (locs : List Loc) (ls : Array Slot) (hl : lv_has ls 6 [(0, .ref (ka K 0)), (1, .int x1), (2, .int x2), (3, .long x3)]) (hW : gw_ (kD K) vwCl (tyX K) (wX K) A s σ H locs) : W p l e rXX0_stamp_0 s m args below meth c H locs 0 0 (gx_Q o.1 (MQ below (gw_Qv (kD K) vwCl (tyX K) (wX K) A o.2) args s rXX0_stamp_0.cells rXX0_stamp_0.slots A) (gx_T below (kD K) vwCl (tyX K) (wX K) A o.1 o.2 s rXX0_stamp_0.cells rXX0_stamp_0.slots)) (F0 m 0 ls []) := by
  have hx := F.1
  have hb := F.2.1
  have hml := F.2.2.2.1
  have hown := F.2.2.2.2.1
  have hts := F.2.2.2.2.2.1
  have hG : ∀ x ∈ gT, x.before args s = true := fun x h => hts x (List.mem_cons_of_mem _ h)
  unfold fXX0_stamp_0_0 at hf
  refine lv_aload_n hx hb dX0_stamp_0 rfl (lv_at hl 0 rfl) ?_
  refine gw_get (v := .ref (ka K 7)) F inc_X0 hW 0 0 5 (aX_0 K σ) rfl (by decide) (hG _ q_1_228) (fun _ h9 => h9) rfl dX0_stamp_1 ?_
  refine lv_aload_n hx hb dX0_stamp_4 rfl (lv_at hl 0 rfl) ?_
  refine lv_iload_n hx hb dX0_stamp_5 rfl (lv_at hl 1 rfl) ?_
  obtain ⟨o9, h10, hf⟩ := gw_bind hf
  refine gx_Vi (As := [.int x1]) (mc' := 2) (ms' := 12) F hT hZ hW (mXX0_itemHere_0 hl9 h10) (cwV 1 hts (gT_V q_5_99 q_5_101 qp_29 q_1_1 q_5_102) rfl rfl rfl hdX0_itemHere ⟨Nat.le_of_ble_eq_true rfl, Nat.le_of_ble_eq_true rfl⟩) 0 0 (aX_0 K σ) rfl rfl hl.1 rfl (Nat.le_of_ble_eq_true rfl) dX0_stamp_6 ⟨Nat.le_of_ble_eq_true rfl, Nat.le_of_ble_eq_true rfl⟩ rfl rfl (Nat.le_of_ble_eq_true rfl) (Nat.le_of_ble_eq_true rfl) (fun c12 => by replace hf := (if_neg c12).symm.trans hf; cases hf; exact ⟨rfl, rfl⟩) (fun c12 H locs hW => ?_)
  replace hf := (if_pos c12).symm.trans hf
  obtain ⟨o13, h14, hf⟩ := gw_bind hf
  refine gw_Vi (As := [.int o9.2.1]) (mc' := 2) (ms' := 12) F hW (mXX5_inodeOf_7 h14) (cwV 1 hts (gT_V q_5_128 q_2_193 q_2_194 q_1_7 q_2_195) rfl rfl rfl hdX5_inodeOf ⟨Nat.le_of_ble_eq_true rfl, Nat.le_of_ble_eq_true rfl⟩) 7 5 (aX_7 K o9.2.2) rfl rfl hl.1 rfl (Nat.le_of_ble_eq_true rfl) dX0_stamp_9 ⟨Nat.le_of_ble_eq_true rfl, Nat.le_of_ble_eq_true rfl⟩ rfl rfl (fun H locs hW => ?_)
  refine lv_istore (lv' := [(5, .int o13.1), (0, .ref (ka K 0)), (1, .int x1), (2, .int x2), (3, .long x3)]) hx hb dX0_stamp_12 hl (by decide) rfl (fun ls hl => ?_)
  refine lv_iload_n hx hb dX0_stamp_14 rfl (lv_at hl 3 rfl) ?_
  refine lv_if_lt (tgt := 23) hx hb dX0_stamp_15 (by decide) (fun c16 => ?_) (fun c16 => ?_)
  · replace hf := (if_pos c16).symm.trans hf
    exact wXX0_stamp_0_23 F hl9 hT hZ _ _ hf _ _ _ (lv_sub hl [] rfl) hW
  · replace hf := (if_neg c16).symm.trans hf
    refine lv_iload_n hx hb dX0_stamp_18 rfl (lv_at hl 3 rfl) ?_
    refine lv_iconst (v := (2 : Int32)) hx hb dX0_stamp_19 (by decide) ?_
    refine lv_icmp_le (tgt := 34) hx hb dX0_stamp_20 (by decide) (fun c17 => ?_) (fun c17 => ?_)
    · replace hf := (if_pos c17).symm.trans hf
      refine lv_aload_n hx hb dX0_stamp_34 rfl (lv_at hl 1 rfl) ?_
      refine gw_get (v := .ref (ka K 6)) F inc_X0 hW 0 0 4 (aX_0 K o13.2) rfl (by decide) (hG _ q_1_227) (fun _ h9 => h9) rfl dX0_stamp_35 ?_
      refine lv_iload hx hb dX0_stamp_38 (lv_at hl 0 rfl) ?_
      refine lv_iload_n hx hb dX0_stamp_40 rfl (lv_at hl 3 rfl) ?_
      refine lv_lload_n hx hb dX0_stamp_41 rfl (lv_at hl 4 rfl) ?_
      obtain ⟨o18, h19, hf⟩ := gw_bind hf
      refine gw_Vv (As := [.int o13.1, .int x2, .long x3]) (mc' := 2) (ms' := 12) F hW (mXX4_setTime_6 h19) (cwV 3 hts (gT_V q_6_101 q_6_102 q_6_103 q_1_6 q_6_104) rfl rfl rfl hdX4_setTime ⟨Nat.le_of_ble_eq_true rfl, Nat.le_of_ble_eq_true rfl⟩) 6 4 (aX_6 K o13.2) rfl rfl hl.1 rfl (Nat.le_of_ble_eq_true rfl) dX0_stamp_42 ⟨Nat.le_of_ble_eq_true rfl, Nat.le_of_ble_eq_true rfl⟩ rfl rfl (fun H locs hW => ?_)
      refine W.widen (k := rXX0_stamp_0.cells) (n := rXX0_stamp_0.slots) (Nat.le_of_ble_eq_true rfl) (Nat.le_of_ble_eq_true rfl) ?_
      cases hf
      exact gx_ret0 rfl (gw_retv F hW rfl dX0_stamp_45)
    · replace hf := (if_neg c17).symm.trans hf
      exact wXX0_stamp_0_23 F hl9 hT hZ _ _ hf _ _ _ (lv_sub hl [] rfl) hW
set_option maxHeartbeats 4000000 in
set_option maxRecDepth 100000 in
theorem mXX0_stamp_0 {l : Launch} (hl9 : l.stackTraces = false) {K : KX} {σ : XS} {x1 : Int32} {x2 : Int32} {x3 : Int64} {o : (Nat × XS)} (hf : fXX0_stamp_0 (kn K) x1 x2 x3 σ = some o) : gx_Mv l (kD K) vwCl (tyX K) (wX K) yX0_stamp wsX0_stamp rXX0_stamp_0 [.ref (ka K 0), .int x1, .int x2, .long x3] σ o := by
  refine gx_body (cc := cX0_stamp) (maxL := 6) (yret := none) (by decide +kernel) rfl ?_ (Nat.le_of_ble_eq_true rfl)
  intro p e s m below meth c A F hT hZ hW ls hl
  exact wXX0_stamp_0_0 F hl9 hT hZ x1 x2 x3 σ o hf s.heap [] ls hl hW
