abbrev rXX1_put4_11 : Room := { frames := 0, cells := 0, slots := 0, locals := 0 }
set_option maxHeartbeats 4000000 in
set_option maxRecDepth 100000 in
theorem wXX1_put4_11_0 {p : Program} {l : Launch} {e : Env} {s : State} {m : MethodId} {args : Array Value} {below : List Frame} {meth : Method} {c : Code} {A : Nat → Prop} {K : KX} (F : fx_ p s m args meth c cX1_put4 3 none RX1 wsX1_put4) (x1 : Int32) (x2 : Int32) (σ : XS) (o : XS) (hf : fXX1_put4_11_0 (kn K) x1 x2 σ = some o) (H : Heap) (locs : List Loc) (ls : Array Slot) (hl : lv_has ls 3 [(0, .ref (ka K 11)), (1, .int x1), (2, .int x2)]) (hW : gw_ (kD K) vwCl (tyX K) (wX K) A s σ H locs) : W p l e rXX1_put4_11 s m args below meth c H locs 0 0 (MQ below (gw_Qv (kD K) vwCl (tyX K) (wX K) A o) args s rXX1_put4_11.cells rXX1_put4_11.slots A) (F0 m 0 ls []) := by
  have hx := F.1
  have hb := F.2.1
  have hml := F.2.2.2.1
  have hown := F.2.2.2.2.1
  have hts := F.2.2.2.2.2.1
  have hG : ∀ x ∈ gT, x.before args s = true := fun x h => hts x (List.mem_cons_of_mem _ h)
  unfold fXX1_put4_11_0 at hf
  refine lv_iload_n hx hb dX1_put4_0 rfl (lv_at hl 1 rfl) ?_
  refine lv_if_lt (tgt := 62) hx hb dX1_put4_1 (by decide) (fun c1 => ?_) (fun c1 => ?_)
  · replace hf := (if_pos c1).symm.trans hf
    exact gw_retv F hW hf dX1_put4_62
  · replace hf := (if_neg c1).symm.trans hf
    refine lv_iload_n hx hb dX1_put4_4 rfl (lv_at hl 1 rfl) ?_
    refine lv_aload_n hx hb dX1_put4_5 rfl (lv_at hl 0 rfl) ?_
    refine gw_get (v := .ref (ka K 12)) F inc_X1 hW 11 1 0 (aX_11 K σ) rfl (by decide) (hG _ q_1_53) (fun _ h9 => h9) rfl dX1_put4_6 ?_
    refine gw_alen F hW 12 2 (aX_12 K σ) rfl dX1_put4_9 ?_
    refine lv_iconst (v := (4 : Int32)) hx hb dX1_put4_10 (by decide) ?_
    refine lv_isub hx hb dX1_put4_11 ?_
    refine lv_icmp_gt (tgt := 62) hx hb dX1_put4_12 (by decide) (fun c2 => ?_) (fun c2 => ?_)
    · replace hf := (if_pos c2).symm.trans hf
      exact gw_retv F hW hf dX1_put4_62
    · replace hf := (if_neg c2).symm.trans hf
      refine lv_aload_n hx hb dX1_put4_15 rfl (lv_at hl 0 rfl) ?_
      refine gw_get (v := .ref (ka K 12)) F inc_X1 hW 11 1 0 (aX_11 K σ) rfl (by decide) (hG _ q_1_53) (fun _ h9 => h9) rfl dX1_put4_16 ?_
      refine lv_iload_n hx hb dX1_put4_19 rfl (lv_at hl 1 rfl) ?_
      refine lv_iload_n hx hb dX1_put4_20 rfl (lv_at hl 2 rfl) ?_
      refine lv_i2b (v := x2.toInt8.toInt32) hx hb dX1_put4_21 rfl ?_
      rcases Decidable.em (x1 < 0 ∨ 2048 ≤ x1.toNatClampNeg) with c3 | c3
      · replace hf := (if_pos c3).symm.trans hf
        exact absurd hf (by simp)
      · replace hf := (if_neg c3).symm.trans hf
        refine gw_bast (σ' := (stA σ 2 x1.toNatClampNeg (vp_nar .byte x2.toInt8.toInt32))) F hW 12 2 (aX_12 K σ) rfl c3 dX1_put4_22 (sAX_2 _ _ _) (fun H locs hW => ?_)
        refine lv_aload_n hx hb dX1_put4_23 rfl (lv_at hl 0 rfl) ?_
        refine gw_get (v := .ref (ka K 12)) F inc_X1 hW 11 1 0 (aX_11 K (stA σ 2 x1.toNatClampNeg (vp_nar .byte x2.toInt8.toInt32))) rfl (by decide) (hG _ q_1_53) (fun _ h9 => h9) rfl dX1_put4_24 ?_
        refine lv_iload_n hx hb dX1_put4_27 rfl (lv_at hl 1 rfl) ?_
        refine lv_iconst (v := (1 : Int32)) hx hb dX1_put4_28 (by decide) ?_
        refine lv_iadd hx hb dX1_put4_29 ?_
        refine lv_iload_n hx hb dX1_put4_30 rfl (lv_at hl 2 rfl) ?_
        refine lv_bipush (v := (8 : Int32)) hx hb dX1_put4_31 (by decide) ?_
        refine lv_ishr hx hb dX1_put4_33 ?_
        refine lv_i2b (v := (x2 >>> ((8 : Int32) &&& 31)).toInt8.toInt32) hx hb dX1_put4_34 rfl ?_
        rcases Decidable.em ((x1 + (1 : Int32)) < 0 ∨ 2048 ≤ (x1 + (1 : Int32)).toNatClampNeg) with c4 | c4
        · replace hf := (if_pos c4).symm.trans hf
          exact absurd hf (by simp)
        · replace hf := (if_neg c4).symm.trans hf
          refine gw_bast (σ' := (stA (stA σ 2 x1.toNatClampNeg (vp_nar .byte x2.toInt8.toInt32)) 2 (x1 + (1 : Int32)).toNatClampNeg (vp_nar .byte ((x2 >>> ((8 : Int32) &&& 31)).toInt8.toInt32)))) F hW 12 2 (aX_12 K (stA σ 2 x1.toNatClampNeg (vp_nar .byte x2.toInt8.toInt32))) rfl c4 dX1_put4_35 (sAX_2 _ _ _) (fun H locs hW => ?_)
          refine lv_aload_n hx hb dX1_put4_36 rfl (lv_at hl 0 rfl) ?_
          refine gw_get (v := .ref (ka K 12)) F inc_X1 hW 11 1 0 (aX_11 K (stA (stA σ 2 x1.toNatClampNeg (vp_nar .byte x2.toInt8.toInt32)) 2 (x1 + (1 : Int32)).toNatClampNeg (vp_nar .byte ((x2 >>> ((8 : Int32) &&& 31)).toInt8.toInt32)))) rfl (by decide) (hG _ q_1_53) (fun _ h9 => h9) rfl dX1_put4_37 ?_
          refine lv_iload_n hx hb dX1_put4_40 rfl (lv_at hl 1 rfl) ?_
          refine lv_iconst (v := (2 : Int32)) hx hb dX1_put4_41 (by decide) ?_
          refine lv_iadd hx hb dX1_put4_42 ?_
          refine lv_iload_n hx hb dX1_put4_43 rfl (lv_at hl 2 rfl) ?_
          refine lv_bipush (v := (16 : Int32)) hx hb dX1_put4_44 (by decide) ?_
          refine lv_ishr hx hb dX1_put4_46 ?_
          refine lv_i2b (v := (x2 >>> ((16 : Int32) &&& 31)).toInt8.toInt32) hx hb dX1_put4_47 rfl ?_
          rcases Decidable.em ((x1 + (2 : Int32)) < 0 ∨ 2048 ≤ (x1 + (2 : Int32)).toNatClampNeg) with c5 | c5
          · replace hf := (if_pos c5).symm.trans hf
            exact absurd hf (by simp)
          · replace hf := (if_neg c5).symm.trans hf
            refine gw_bast (σ' := (stA (stA (stA σ 2 x1.toNatClampNeg (vp_nar .byte x2.toInt8.toInt32)) 2 (x1 + (1 : Int32)).toNatClampNeg (vp_nar .byte ((x2 >>> ((8 : Int32) &&& 31)).toInt8.toInt32))) 2 (x1 + (2 : Int32)).toNatClampNeg (vp_nar .byte ((x2 >>> ((16 : Int32) &&& 31)).toInt8.toInt32)))) F hW 12 2 (aX_12 K (stA (stA σ 2 x1.toNatClampNeg (vp_nar .byte x2.toInt8.toInt32)) 2 (x1 + (1 : Int32)).toNatClampNeg (vp_nar .byte ((x2 >>> ((8 : Int32) &&& 31)).toInt8.toInt32)))) rfl c5 dX1_put4_48 (sAX_2 _ _ _) (fun H locs hW => ?_)
            refine lv_aload_n hx hb dX1_put4_49 rfl (lv_at hl 0 rfl) ?_
            refine gw_get (v := .ref (ka K 12)) F inc_X1 hW 11 1 0 (aX_11 K (stA (stA (stA σ 2 x1.toNatClampNeg (vp_nar .byte x2.toInt8.toInt32)) 2 (x1 + (1 : Int32)).toNatClampNeg (vp_nar .byte ((x2 >>> ((8 : Int32) &&& 31)).toInt8.toInt32))) 2 (x1 + (2 : Int32)).toNatClampNeg (vp_nar .byte ((x2 >>> ((16 : Int32) &&& 31)).toInt8.toInt32)))) rfl (by decide) (hG _ q_1_53) (fun _ h9 => h9) rfl dX1_put4_50 ?_
            refine lv_iload_n hx hb dX1_put4_53 rfl (lv_at hl 1 rfl) ?_
            refine lv_iconst (v := (3 : Int32)) hx hb dX1_put4_54 (by decide) ?_
            refine lv_iadd hx hb dX1_put4_55 ?_
            refine lv_iload_n hx hb dX1_put4_56 rfl (lv_at hl 2 rfl) ?_
            refine lv_bipush (v := (24 : Int32)) hx hb dX1_put4_57 (by decide) ?_
            refine lv_ishr hx hb dX1_put4_59 ?_
            refine lv_i2b (v := (x2 >>> ((24 : Int32) &&& 31)).toInt8.toInt32) hx hb dX1_put4_60 rfl ?_
            rcases Decidable.em ((x1 + (3 : Int32)) < 0 ∨ 2048 ≤ (x1 + (3 : Int32)).toNatClampNeg) with c6 | c6
            · replace hf := (if_pos c6).symm.trans hf
              exact absurd hf (by simp)
            · replace hf := (if_neg c6).symm.trans hf
              refine gw_bast (σ' := (stA (stA (stA (stA σ 2 x1.toNatClampNeg (vp_nar .byte x2.toInt8.toInt32)) 2 (x1 + (1 : Int32)).toNatClampNeg (vp_nar .byte ((x2 >>> ((8 : Int32) &&& 31)).toInt8.toInt32))) 2 (x1 + (2 : Int32)).toNatClampNeg (vp_nar .byte ((x2 >>> ((16 : Int32) &&& 31)).toInt8.toInt32))) 2 (x1 + (3 : Int32)).toNatClampNeg (vp_nar .byte ((x2 >>> ((24 : Int32) &&& 31)).toInt8.toInt32)))) F hW 12 2 (aX_12 K (stA (stA (stA σ 2 x1.toNatClampNeg (vp_nar .byte x2.toInt8.toInt32)) 2 (x1 + (1 : Int32)).toNatClampNeg (vp_nar .byte ((x2 >>> ((8 : Int32) &&& 31)).toInt8.toInt32))) 2 (x1 + (2 : Int32)).toNatClampNeg (vp_nar .byte ((x2 >>> ((16 : Int32) &&& 31)).toInt8.toInt32)))) rfl c6 dX1_put4_61 (sAX_2 _ _ _) (fun H locs hW => ?_)
              exact gw_retv F hW hf dX1_put4_62
set_option maxHeartbeats 4000000 in
set_option maxRecDepth 100000 in
theorem mXX1_put4_11 {l : Launch} {K : KX} {σ : XS} {x1 : Int32} {x2 : Int32} {o : XS} (hf : fXX1_put4_11 (kn K) x1 x2 σ = some o) : gw_Mv l (kD K) vwCl (tyX K) (wX K) yX1_put4 wsX1_put4 rXX1_put4_11 [.ref (ka K 11), .int x1, .int x2] σ o := by
  intro sz
  refine gw_body (cc := cX1_put4) (maxL := 3) (yret := none) (by decide +kernel) rfl ?_ (Nat.le_of_ble_eq_true rfl)
  intro p e s m below meth c F hsz hW ls hl
  exact wXX1_put4_11_0 F x1 x2 σ o hf s.heap [] ls hl hW
abbrev rXX1_put2_11 : Room := { frames := 0, cells := 0, slots := 0, locals := 0 }
set_option maxHeartbeats 4000000 in
set_option maxRecDepth 100000 in
theorem wXX1_put2_11_0 {p : Program} {l : Launch} {e : Env} {s : State} {m : MethodId} {args : Array Value} {below : List Frame} {meth : Method} {c : Code} {A : Nat → Prop} {K : KX} (F : fx_ p s m args meth c cX1_put2 3 none RX1 wsX1_put2) (x1 : Int32) (x2 : Int32) (σ : XS) (o : XS) (hf : fXX1_put2_11_0 (kn K) x1 x2 σ = some o) (H : Heap) (locs : List Loc) (ls : Array Slot) (hl : lv_has ls 3 [(0, .ref (ka K 11)), (1, .int x1), (2, .int x2)]) (hW : gw_ (kD K) vwCl (tyX K) (wX K) A s σ H locs) : W p l e rXX1_put2_11 s m args below meth c H locs 0 0 (MQ below (gw_Qv (kD K) vwCl (tyX K) (wX K) A o) args s rXX1_put2_11.cells rXX1_put2_11.slots A) (F0 m 0 ls []) := by
  have hx := F.1
  have hb := F.2.1
  have hml := F.2.2.2.1
  have hown := F.2.2.2.2.1
  have hts := F.2.2.2.2.2.1
  have hG : ∀ x ∈ gT, x.before args s = true := fun x h => hts x (List.mem_cons_of_mem _ h)
  unfold fXX1_put2_11_0 at hf
  refine lv_iload_n hx hb dX1_put2_0 rfl (lv_at hl 1 rfl) ?_
  refine lv_if_lt (tgt := 36) hx hb dX1_put2_1 (by decide) (fun c1 => ?_) (fun c1 => ?_)
  · replace hf := (if_pos c1).symm.trans hf
    exact gw_retv F hW hf dX1_put2_36
  · replace hf := (if_neg c1).symm.trans hf
    refine lv_iload_n hx hb dX1_put2_4 rfl (lv_at hl 1 rfl) ?_
    refine lv_aload_n hx hb dX1_put2_5 rfl (lv_at hl 0 rfl) ?_
    refine gw_get (v := .ref (ka K 12)) F inc_X1 hW 11 1 0 (aX_11 K σ) rfl (by decide) (hG _ q_1_53) (fun _ h9 => h9) rfl dX1_put2_6 ?_
    refine gw_alen F hW 12 2 (aX_12 K σ) rfl dX1_put2_9 ?_
    refine lv_iconst (v := (2 : Int32)) hx hb dX1_put2_10 (by decide) ?_
    refine lv_isub hx hb dX1_put2_11 ?_
    refine lv_icmp_gt (tgt := 36) hx hb dX1_put2_12 (by decide) (fun c2 => ?_) (fun c2 => ?_)
    · replace hf := (if_pos c2).symm.trans hf
      exact gw_retv F hW hf dX1_put2_36
    · replace hf := (if_neg c2).symm.trans hf
      refine lv_aload_n hx hb dX1_put2_15 rfl (lv_at hl 0 rfl) ?_
      refine gw_get (v := .ref (ka K 12)) F inc_X1 hW 11 1 0 (aX_11 K σ) rfl (by decide) (hG _ q_1_53) (fun _ h9 => h9) rfl dX1_put2_16 ?_
      refine lv_iload_n hx hb dX1_put2_19 rfl (lv_at hl 1 rfl) ?_
      refine lv_iload_n hx hb dX1_put2_20 rfl (lv_at hl 2 rfl) ?_
      refine lv_i2b (v := x2.toInt8.toInt32) hx hb dX1_put2_21 rfl ?_
      rcases Decidable.em (x1 < 0 ∨ 2048 ≤ x1.toNatClampNeg) with c3 | c3
      · replace hf := (if_pos c3).symm.trans hf
        exact absurd hf (by simp)
      · replace hf := (if_neg c3).symm.trans hf
        refine gw_bast (σ' := (stA σ 2 x1.toNatClampNeg (vp_nar .byte x2.toInt8.toInt32))) F hW 12 2 (aX_12 K σ) rfl c3 dX1_put2_22 (sAX_2 _ _ _) (fun H locs hW => ?_)
        refine lv_aload_n hx hb dX1_put2_23 rfl (lv_at hl 0 rfl) ?_
        refine gw_get (v := .ref (ka K 12)) F inc_X1 hW 11 1 0 (aX_11 K (stA σ 2 x1.toNatClampNeg (vp_nar .byte x2.toInt8.toInt32))) rfl (by decide) (hG _ q_1_53) (fun _ h9 => h9) rfl dX1_put2_24 ?_
        refine lv_iload_n hx hb dX1_put2_27 rfl (lv_at hl 1 rfl) ?_
        refine lv_iconst (v := (1 : Int32)) hx hb dX1_put2_28 (by decide) ?_
        refine lv_iadd hx hb dX1_put2_29 ?_
        refine lv_iload_n hx hb dX1_put2_30 rfl (lv_at hl 2 rfl) ?_
        refine lv_bipush (v := (8 : Int32)) hx hb dX1_put2_31 (by decide) ?_
        refine lv_ishr hx hb dX1_put2_33 ?_
        refine lv_i2b (v := (x2 >>> ((8 : Int32) &&& 31)).toInt8.toInt32) hx hb dX1_put2_34 rfl ?_
        rcases Decidable.em ((x1 + (1 : Int32)) < 0 ∨ 2048 ≤ (x1 + (1 : Int32)).toNatClampNeg) with c4 | c4
        · replace hf := (if_pos c4).symm.trans hf
          exact absurd hf (by simp)
        · replace hf := (if_neg c4).symm.trans hf
          refine gw_bast (σ' := (stA (stA σ 2 x1.toNatClampNeg (vp_nar .byte x2.toInt8.toInt32)) 2 (x1 + (1 : Int32)).toNatClampNeg (vp_nar .byte ((x2 >>> ((8 : Int32) &&& 31)).toInt8.toInt32)))) F hW 12 2 (aX_12 K (stA σ 2 x1.toNatClampNeg (vp_nar .byte x2.toInt8.toInt32))) rfl c4 dX1_put2_35 (sAX_2 _ _ _) (fun H locs hW => ?_)
          exact gw_retv F hW hf dX1_put2_36
set_option maxHeartbeats 4000000 in
set_option maxRecDepth 100000 in
theorem mXX1_put2_11 {l : Launch} {K : KX} {σ : XS} {x1 : Int32} {x2 : Int32} {o : XS} (hf : fXX1_put2_11 (kn K) x1 x2 σ = some o) : gw_Mv l (kD K) vwCl (tyX K) (wX K) yX1_put2 wsX1_put2 rXX1_put2_11 [.ref (ka K 11), .int x1, .int x2] σ o := by
  intro sz
  refine gw_body (cc := cX1_put2) (maxL := 3) (yret := none) (by decide +kernel) rfl ?_ (Nat.le_of_ble_eq_true rfl)
  intro p e s m below meth c F hsz hW ls hl
  exact wXX1_put2_11_0 F x1 x2 σ o hf s.heap [] ls hl hW
abbrev rXX6_describe_9_11 : Room := { frames := 2, cells := 0, slots := 0, locals := 46 }
set_option maxHeartbeats 4000000 in
set_option maxRecDepth 100000 in
theorem wXX6_describe_9_11_0 {p : Program} {l : Launch} {e : Env} {s : State} {m : MethodId} {args : Array Value} {below : List Frame} {meth : Method} {c : Code} {A : Nat → Prop} {K : KX} (F : fx_ p s m args meth c cX6_describe 5 none RX6 wsX6_describe) (x2 : Int32) (x3 : Int32) (σ : XS) (o : XS) (hf : fXX6_describe_9_11_0 (kn K) x2 x3 σ = some o) (H : Heap) (locs : List Loc) (ls : Array Slot) (hl : lv_has ls 5 [(0, .ref (ka K 9)), (1, .ref (ka K 11)), (2, .int x2), (3, .int x3)]) (hW : gw_ (kD K) vwCl (tyX K) (wX K) A s σ H locs) : W p l e rXX6_describe_9_11 s m args below meth c H locs 0 0 (MQ below (gw_Qv (kD K) vwCl (tyX K) (wX K) A o) args s rXX6_describe_9_11.cells rXX6_describe_9_11.slots A) (F0 m 0 ls []) := by
  have hx := F.1
  have hb := F.2.1
  have hml := F.2.2.2.1
  have hown := F.2.2.2.2.1
  have hts := F.2.2.2.2.2.1
  have hG : ∀ x ∈ gT, x.before args s = true := fun x h => hts x (List.mem_cons_of_mem _ h)
  unfold fXX6_describe_9_11_0 at hf
  refine lv_aload_n hx hb dX6_describe_0 rfl (lv_at hl 0 rfl) ?_
  refine gw_get (v := .ref (ka K 3)) F inc_X6 hW 9 6 0 (aX_9 K σ) rfl (by decide) (hG _ q_1_144) (fun _ h9 => h9) rfl dX6_describe_1 ?_
  refine lv_iload_n hx hb dX6_describe_4 rfl (lv_at hl 3 rfl) ?_
  obtain ⟨o1, h2, hf⟩ := gw_bind hf
  refine gw_Vi (As := [.int x3]) (mc' := 0) (ms' := 0) F hW (mXX2_firstBlock_3 h2) (cwV 1 hts (gT_V q_4_154 q_2_82 q_2_83 q_1_4 q_2_84) rfl rfl rfl hdX2_firstBlock ⟨Nat.le_of_ble_eq_true rfl, Nat.le_of_ble_eq_true rfl⟩) 3 2 (aX_3 K σ) rfl rfl hl.1 rfl (Nat.le_of_ble_eq_true rfl) dX6_describe_5 ⟨Nat.le_of_ble_eq_true rfl, Nat.le_of_ble_eq_true rfl⟩ rfl rfl (fun H locs hW => ?_)
  refine lv_istore (lv' := [(4, .int o1.1), (0, .ref (ka K 9)), (1, .ref (ka K 11)), (2, .int x2), (3, .int x3)]) hx hb dX6_describe_8 hl (by decide) rfl (fun ls hl => ?_)
  refine lv_aload_n hx hb dX6_describe_10 rfl (lv_at hl 2 rfl) ?_
  refine lv_iload_n hx hb dX6_describe_11 rfl (lv_at hl 3 rfl) ?_
  refine lv_iload hx hb dX6_describe_12 (lv_at hl 0 rfl) ?_
  refine lv_iconst (v := (2 : Int32)) hx hb dX6_describe_14 (by decide) ?_
  refine lv_iadd hx hb dX6_describe_15 ?_
  obtain ⟨o4, h5, hf⟩ := gw_bind hf
  refine gw_Vv (As := [.int x2, .int (o1.1 + (2 : Int32))]) (mc' := 0) (ms' := 0) F hW (mXX1_put4_11 h5) (cwV 2 hts (gT_V q_4_155 q_4_156 q_4_157 q_1_3 q_4_158) rfl rfl rfl hdX1_put4 ⟨Nat.le_of_ble_eq_true rfl, Nat.le_of_ble_eq_true rfl⟩) 11 1 (aX_11 K o1.2) rfl rfl hl.1 rfl (Nat.le_of_ble_eq_true rfl) dX6_describe_16 ⟨Nat.le_of_ble_eq_true rfl, Nat.le_of_ble_eq_true rfl⟩ rfl rfl (fun H locs hW => ?_)
  refine lv_aload_n hx hb dX6_describe_19 rfl (lv_at hl 2 rfl) ?_
  refine lv_iload_n hx hb dX6_describe_20 rfl (lv_at hl 3 rfl) ?_
  refine lv_iconst (v := (4 : Int32)) hx hb dX6_describe_21 (by decide) ?_
  refine lv_iadd hx hb dX6_describe_22 ?_
  refine lv_iload hx hb dX6_describe_23 (lv_at hl 0 rfl) ?_
  refine lv_iconst (v := (3 : Int32)) hx hb dX6_describe_25 (by decide) ?_
  refine lv_iadd hx hb dX6_describe_26 ?_
  obtain ⟨o7, h8, hf⟩ := gw_bind hf
  refine gw_Vv (As := [.int (x2 + (4 : Int32)), .int (o1.1 + (3 : Int32))]) (mc' := 0) (ms' := 0) F hW (mXX1_put4_11 h8) (cwV 2 hts (gT_V q_4_155 q_4_156 q_4_157 q_1_3 q_4_158) rfl rfl rfl hdX1_put4 ⟨Nat.le_of_ble_eq_true rfl, Nat.le_of_ble_eq_true rfl⟩) 11 1 (aX_11 K o4) rfl rfl hl.1 rfl (Nat.le_of_ble_eq_true rfl) dX6_describe_27 ⟨Nat.le_of_ble_eq_true rfl, Nat.le_of_ble_eq_true rfl⟩ rfl rfl (fun H locs hW => ?_)
  refine lv_aload_n hx hb dX6_describe_30 rfl (lv_at hl 2 rfl) ?_
  refine lv_iload_n hx hb dX6_describe_31 rfl (lv_at hl 3 rfl) ?_
  refine lv_bipush (v := (8 : Int32)) hx hb dX6_describe_32 (by decide) ?_
  refine lv_iadd hx hb dX6_describe_34 ?_
  refine lv_iload hx hb dX6_describe_35 (lv_at hl 0 rfl) ?_
  refine lv_iconst (v := (4 : Int32)) hx hb dX6_describe_37 (by decide) ?_
  refine lv_iadd hx hb dX6_describe_38 ?_
  obtain ⟨o10, h11, hf⟩ := gw_bind hf
  refine gw_Vv (As := [.int (x2 + (8 : Int32)), .int (o1.1 + (4 : Int32))]) (mc' := 0) (ms' := 0) F hW (mXX1_put4_11 h11) (cwV 2 hts (gT_V q_4_155 q_4_156 q_4_157 q_1_3 q_4_158) rfl rfl rfl hdX1_put4 ⟨Nat.le_of_ble_eq_true rfl, Nat.le_of_ble_eq_true rfl⟩) 11 1 (aX_11 K o7) rfl rfl hl.1 rfl (Nat.le_of_ble_eq_true rfl) dX6_describe_39 ⟨Nat.le_of_ble_eq_true rfl, Nat.le_of_ble_eq_true rfl⟩ rfl rfl (fun H locs hW => ?_)
  refine lv_aload_n hx hb dX6_describe_42 rfl (lv_at hl 2 rfl) ?_
  refine lv_iload_n hx hb dX6_describe_43 rfl (lv_at hl 3 rfl) ?_
  refine lv_bipush (v := (12 : Int32)) hx hb dX6_describe_44 (by decide) ?_
  refine lv_iadd hx hb dX6_describe_46 ?_
  refine lv_aload_n hx hb dX6_describe_47 rfl (lv_at hl 1 rfl) ?_
  refine gw_get (v := .ref (ka K 4)) F inc_X6 hW 9 6 1 (aX_9 K o10) rfl (by decide) (hG _ q_1_145) (fun _ h9 => h9) rfl dX6_describe_48 ?_
  refine lv_iload_n hx hb dX6_describe_51 rfl (lv_at hl 4 rfl) ?_
  obtain ⟨o13, h14, hf⟩ := gw_bind hf
  refine gw_Vi (As := [.int x3]) (mc' := 0) (ms' := 0) F hW (mXX3_freeIn_4 h14) (cwV 1 hts (gT_V q_4_140 q_4_141 q_4_142 q_1_5 q_4_143) rfl rfl rfl hdX3_freeIn ⟨Nat.le_of_ble_eq_true rfl, Nat.le_of_ble_eq_true rfl⟩) 4 3 (aX_4 K o10) rfl rfl hl.1 rfl (Nat.le_of_ble_eq_true rfl) dX6_describe_52 ⟨Nat.le_of_ble_eq_true rfl, Nat.le_of_ble_eq_true rfl⟩ rfl rfl (fun H locs hW => ?_)
  obtain ⟨o16, h17, hf⟩ := gw_bind hf
  refine gw_Vv (As := [.int (x2 + (12 : Int32)), .int o13.1]) (mc' := 0) (ms' := 0) F hW (mXX1_put2_11 h17) (cwV 2 hts (gT_V q_4_159 q_4_160 q_4_161 q_1_3 q_4_162) rfl rfl rfl hdX1_put2 ⟨Nat.le_of_ble_eq_true rfl, Nat.le_of_ble_eq_true rfl⟩) 11 1 (aX_11 K o13.2) rfl rfl hl.1 rfl (Nat.le_of_ble_eq_true rfl) dX6_describe_55 ⟨Nat.le_of_ble_eq_true rfl, Nat.le_of_ble_eq_true rfl⟩ rfl rfl (fun H locs hW => ?_)
  refine lv_aload_n hx hb dX6_describe_58 rfl (lv_at hl 2 rfl) ?_
  refine lv_iload_n hx hb dX6_describe_59 rfl (lv_at hl 3 rfl) ?_
  refine lv_bipush (v := (14 : Int32)) hx hb dX6_describe_60 (by decide) ?_
  refine lv_iadd hx hb dX6_describe_62 ?_
  refine lv_aload_n hx hb dX6_describe_63 rfl (lv_at hl 1 rfl) ?_
  refine gw_get (v := .ref (ka K 5)) F inc_X6 hW 9 6 2 (aX_9 K o16) rfl (by decide) (hG _ q_1_146) (fun _ h9 => h9) rfl dX6_describe_64 ?_
  refine lv_iload_n hx hb dX6_describe_67 rfl (lv_at hl 4 rfl) ?_
  obtain ⟨o19, h20, hf⟩ := gw_bind hf
  refine gw_Vi (As := [.int x3]) (mc' := 0) (ms' := 0) F hW (mXX3_freeIn_5 h20) (cwV 1 hts (gT_V q_4_140 q_4_141 q_4_142 q_1_5 q_4_143) rfl rfl rfl hdX3_freeIn ⟨Nat.le_of_ble_eq_true rfl, Nat.le_of_ble_eq_true rfl⟩) 5 3 (aX_5 K o16) rfl rfl hl.1 rfl (Nat.le_of_ble_eq_true rfl) dX6_describe_68 ⟨Nat.le_of_ble_eq_true rfl, Nat.le_of_ble_eq_true rfl⟩ rfl rfl (fun H locs hW => ?_)
  obtain ⟨o22, h23, hf⟩ := gw_bind hf
  refine gw_Vv (As := [.int (x2 + (14 : Int32)), .int o19.1]) (mc' := 0) (ms' := 0) F hW (mXX1_put2_11 h23) (cwV 2 hts (gT_V q_4_159 q_4_160 q_4_161 q_1_3 q_4_162) rfl rfl rfl hdX1_put2 ⟨Nat.le_of_ble_eq_true rfl, Nat.le_of_ble_eq_true rfl⟩) 11 1 (aX_11 K o19.2) rfl rfl hl.1 rfl (Nat.le_of_ble_eq_true rfl) dX6_describe_71 ⟨Nat.le_of_ble_eq_true rfl, Nat.le_of_ble_eq_true rfl⟩ rfl rfl (fun H locs hW => ?_)
  refine lv_aload_n hx hb dX6_describe_74 rfl (lv_at hl 2 rfl) ?_
  refine lv_iload_n hx hb dX6_describe_75 rfl (lv_at hl 3 rfl) ?_
  refine lv_bipush (v := (16 : Int32)) hx hb dX6_describe_76 (by decide) ?_
  refine lv_iadd hx hb dX6_describe_78 ?_
  refine lv_aload_n hx hb dX6_describe_79 rfl (lv_at hl 1 rfl) ?_
  refine gw_get (v := .ref (ka K 6)) F inc_X6 hW 9 6 3 (aX_9 K o22) rfl (by decide) (hG _ q_1_147) (fun _ h9 => h9) rfl dX6_describe_80 ?_
  refine lv_iload_n hx hb dX6_describe_83 rfl (lv_at hl 4 rfl) ?_
  obtain ⟨o25, h26, hf⟩ := gw_bind hf
  refine gw_Vi (As := [.int x3]) (mc' := 0) (ms' := 0) F hW (mXX4_directoriesIn_6 h26) (cwV 1 hts (gT_V q_4_163 q_4_164 q_4_165 q_1_6 q_4_166) rfl rfl rfl hdX4_directoriesIn ⟨Nat.le_of_ble_eq_true rfl, Nat.le_of_ble_eq_true rfl⟩) 6 4 (aX_6 K o22) rfl rfl hl.1 rfl (Nat.le_of_ble_eq_true rfl) dX6_describe_84 ⟨Nat.le_of_ble_eq_true rfl, Nat.le_of_ble_eq_true rfl⟩ rfl rfl (fun H locs hW => ?_)
  obtain ⟨o28, h29, hf⟩ := gw_bind hf
  refine gw_Vv (As := [.int (x2 + (16 : Int32)), .int o25.1]) (mc' := 0) (ms' := 0) F hW (mXX1_put2_11 h29) (cwV 2 hts (gT_V q_4_159 q_4_160 q_4_161 q_1_3 q_4_162) rfl rfl rfl hdX1_put2 ⟨Nat.le_of_ble_eq_true rfl, Nat.le_of_ble_eq_true rfl⟩) 11 1 (aX_11 K o25.2) rfl rfl hl.1 rfl (Nat.le_of_ble_eq_true rfl) dX6_describe_87 ⟨Nat.le_of_ble_eq_true rfl, Nat.le_of_ble_eq_true rfl⟩ rfl rfl (fun H locs hW => ?_)
  exact gw_retv F hW hf dX6_describe_90
set_option maxHeartbeats 4000000 in
set_option maxRecDepth 100000 in
theorem mXX6_describe_9_11 {l : Launch} {K : KX} {σ : XS} {x2 : Int32} {x3 : Int32} {o : XS} (hf : fXX6_describe_9_11 (kn K) x2 x3 σ = some o) : gw_Mv l (kD K) vwCl (tyX K) (wX K) yX6_describe wsX6_describe rXX6_describe_9_11 [.ref (ka K 9), .ref (ka K 11), .int x2, .int x3] σ o := by
  intro sz
  refine gw_body (cc := cX6_describe) (maxL := 5) (yret := none) (by decide +kernel) rfl ?_ (Nat.le_of_ble_eq_true rfl)
  intro p e s m below meth c F hsz hW ls hl
  exact wXX6_describe_9_11_0 F x2 x3 σ o hf s.heap [] ls hl hW
abbrev rXX6_sketch_9_11 : Room := { frames := 3, cells := 0, slots := 0, locals := 70 }
def PXX6_sketch_9_11_9 (p : Program) (l : Launch) (e : Env) (s : State) (m : MethodId) (args : Array Value) (below : List Frame) (meth : Method) (c : Code) (A : Nat → Prop) (K : KX) (t : (Int32 × Int32 × Int32 × Int32 × Int32 × XS)) (o : XS) : Prop := ∀ (H : Heap) (locs : List Loc) (ls : Array Slot), lv_has ls 7 [(0, .ref (ka K 9)), (1, .ref (ka K 11)), (2, .int t.1), (3, .int t.2.1), (4, .int t.2.2.1), (5, .int t.2.2.2.1), (6, .int t.2.2.2.2.1)] → gw_ (kD K) vwCl (tyX K) (wX K) A s t.2.2.2.2.2 H locs → W p l e rXX6_sketch_9_11 s m args below meth c H locs 0 0 (MQ below (gw_Qv (kD K) vwCl (tyX K) (wX K) A o) args s rXX6_sketch_9_11.cells rXX6_sketch_9_11.slots A) (F0 m 9 ls [])
set_option maxHeartbeats 4000000 in
set_option maxRecDepth 100000 in
theorem wXX6_sketch_9_11_9 {p : Program} {l : Launch} {e : Env} {s : State} {m : MethodId} {args : Array Value} {below : List Frame} {meth : Method} {c : Code} {A : Nat → Prop} {K : KX} (F : fx_ p s m args meth c cX6_sketch 7 none RX6 wsX6_sketch) {k9 : (Int32 × Int32 × Int32 × Int32 × Int32 × XS) → Option XS} (hk9 : ∀ t o, k9 t = some o → PXX6_sketch_9_11_9 p l e s m args below meth c A K t o) (x2 : Int32) (x3 : Int32) (x4 : Int32) (x5 : Int32) (x6 : Int32) (σ : XS) (o : XS) (hf : fXX6_sketch_9_11_9 (kn K) k9 x2 x3 x4 x5 x6 σ = some o) (H : Heap) (locs : List Loc) (ls : Array Slot) (hl : lv_has ls 7 [(0, .ref (ka K 9)), (1, .ref (ka K 11)), (2, .int x2), (3, .int x3), (4, .int x4), (5, .int x5), (6, .int x6)]) (hW : gw_ (kD K) vwCl (tyX K) (wX K) A s σ H locs) : W p l e rXX6_sketch_9_11 s m args below meth c H locs 0 0 (MQ below (gw_Qv (kD K) vwCl (tyX K) (wX K) A o) args s rXX6_sketch_9_11.cells rXX6_sketch_9_11.slots A) (F0 m 9 ls []) := by
  have hx := F.1
  have hb := F.2.1
  have hml := F.2.2.2.1
  have hown := F.2.2.2.2.1
  have hts := F.2.2.2.2.2.1
  have hG : ∀ x ∈ gT, x.before args s = true := fun x h => hts x (List.mem_cons_of_mem _ h)
  unfold fXX6_sketch_9_11_9 at hf
  refine lv_iload hx hb dX6_sketch_9 (lv_at hl 6 rfl) ?_
  refine lv_aload_n hx hb dX6_sketch_11 rfl (lv_at hl 0 rfl) ?_
  refine gw_get (v := .ref (ka K 3)) F inc_X6 hW 9 6 0 (aX_9 K σ) rfl (by decide) (hG _ q_1_144) (fun _ h9 => h9) rfl dX6_sketch_12 ?_
  obtain ⟨o1, h2, hf⟩ := gw_bind hf
  refine gw_Vi (As := []) (mc' := 0) (ms' := 0) F hW (mXX2_groups_3 h2) (cwV 0 hts (gT_V q_4_139 q_2_74 q_2_75 q_1_4 q_2_76) rfl rfl rfl hdX2_groups ⟨Nat.le_of_ble_eq_true rfl, Nat.le_of_ble_eq_true rfl⟩) 3 2 (aX_3 K σ) rfl rfl hl.1 rfl (Nat.le_of_ble_eq_true rfl) dX6_sketch_15 ⟨Nat.le_of_ble_eq_true rfl, Nat.le_of_ble_eq_true rfl⟩ rfl rfl (fun H locs hW => ?_)
  refine lv_icmp_ge (tgt := 73) hx hb dX6_sketch_18 (by decide) (fun c4 => ?_) (fun c4 => ?_)
  · replace hf := (if_pos c4).symm.trans hf
    refine lv_aload_n hx hb dX6_sketch_73 rfl (lv_at hl 1 rfl) ?_
    refine lv_iload_n hx hb dX6_sketch_74 rfl (lv_at hl 2 rfl) ?_
    refine lv_aload_n hx hb dX6_sketch_75 rfl (lv_at hl 0 rfl) ?_
    refine gw_get (v := .ref (ka K 3)) F inc_X6 hW 9 6 0 (aX_9 K o1.2) rfl (by decide) (hG _ q_1_144) (fun _ h9 => h9) rfl dX6_sketch_76 ?_
    obtain ⟨o5, h6, hf⟩ := gw_bind hf
    refine gw_Vi (As := []) (mc' := 0) (ms' := 0) F hW (mXX2_inodes_3 h6) (cwV 0 hts (gT_V q_4_169 q_2_97 q_2_98 q_1_4 q_2_99) rfl rfl rfl hdX2_inodes ⟨Nat.le_of_ble_eq_true rfl, Nat.le_of_ble_eq_true rfl⟩) 3 2 (aX_3 K o1.2) rfl rfl hl.1 rfl (Nat.le_of_ble_eq_true rfl) dX6_sketch_79 ⟨Nat.le_of_ble_eq_true rfl, Nat.le_of_ble_eq_true rfl⟩ rfl rfl (fun H locs hW => ?_)
    obtain ⟨o8, h9, hf⟩ := gw_bind hf
    refine gw_Vv (As := [.int x2, .int o5.1]) (mc' := 0) (ms' := 0) F hW (mXX1_put4_11 h9) (cwV 2 hts (gT_V q_4_155 q_4_156 q_4_157 q_1_3 q_4_158) rfl rfl rfl hdX1_put4 ⟨Nat.le_of_ble_eq_true rfl, Nat.le_of_ble_eq_true rfl⟩) 11 1 (aX_11 K o5.2) rfl rfl hl.1 rfl (Nat.le_of_ble_eq_true rfl) dX6_sketch_82 ⟨Nat.le_of_ble_eq_true rfl, Nat.le_of_ble_eq_true rfl⟩ rfl rfl (fun H locs hW => ?_)
    refine lv_aload_n hx hb dX6_sketch_85 rfl (lv_at hl 1 rfl) ?_
    refine lv_iload_n hx hb dX6_sketch_86 rfl (lv_at hl 2 rfl) ?_
    refine lv_iconst (v := (4 : Int32)) hx hb dX6_sketch_87 (by decide) ?_
    refine lv_iadd hx hb dX6_sketch_88 ?_
    refine lv_aload_n hx hb dX6_sketch_89 rfl (lv_at hl 0 rfl) ?_
    refine gw_get (v := .ref (ka K 3)) F inc_X6 hW 9 6 0 (aX_9 K o8) rfl (by decide) (hG _ q_1_144) (fun _ h9 => h9) rfl dX6_sketch_90 ?_
    obtain ⟨o11, h12, hf⟩ := gw_bind hf
    refine gw_Vi (As := []) (mc' := 0) (ms' := 0) F hW (mXX2_blocks_3 h12) (cwV 0 hts (gT_V q_4_170 q_1_166 q_1_167 q_1_4 q_1_168) rfl rfl rfl hdX2_blocks ⟨Nat.le_of_ble_eq_true rfl, Nat.le_of_ble_eq_true rfl⟩) 3 2 (aX_3 K o8) rfl rfl hl.1 rfl (Nat.le_of_ble_eq_true rfl) dX6_sketch_93 ⟨Nat.le_of_ble_eq_true rfl, Nat.le_of_ble_eq_true rfl⟩ rfl rfl (fun H locs hW => ?_)
    obtain ⟨o14, h15, hf⟩ := gw_bind hf
    refine gw_Vv (As := [.int (x2 + (4 : Int32)), .int o11.1]) (mc' := 0) (ms' := 0) F hW (mXX1_put4_11 h15) (cwV 2 hts (gT_V q_4_155 q_4_156 q_4_157 q_1_3 q_4_158) rfl rfl rfl hdX1_put4 ⟨Nat.le_of_ble_eq_true rfl, Nat.le_of_ble_eq_true rfl⟩) 11 1 (aX_11 K o11.2) rfl rfl hl.1 rfl (Nat.le_of_ble_eq_true rfl) dX6_sketch_96 ⟨Nat.le_of_ble_eq_true rfl, Nat.le_of_ble_eq_true rfl⟩ rfl rfl (fun H locs hW => ?_)
    refine lv_aload_n hx hb dX6_sketch_99 rfl (lv_at hl 1 rfl) ?_
    refine lv_iload_n hx hb dX6_sketch_100 rfl (lv_at hl 2 rfl) ?_
    refine lv_bipush (v := (12 : Int32)) hx hb dX6_sketch_101 (by decide) ?_
    refine lv_iadd hx hb dX6_sketch_103 ?_
    refine lv_iload hx hb dX6_sketch_104 (lv_at hl 4 rfl) ?_
    obtain ⟨o17, h18, hf⟩ := gw_bind hf
    refine gw_Vv (As := [.int (x2 + (12 : Int32)), .int x4]) (mc' := 0) (ms' := 0) F hW (mXX1_put4_11 h18) (cwV 2 hts (gT_V q_4_155 q_4_156 q_4_157 q_1_3 q_4_158) rfl rfl rfl hdX1_put4 ⟨Nat.le_of_ble_eq_true rfl, Nat.le_of_ble_eq_true rfl⟩) 11 1 (aX_11 K o14) rfl rfl hl.1 rfl (Nat.le_of_ble_eq_true rfl) dX6_sketch_106 ⟨Nat.le_of_ble_eq_true rfl, Nat.le_of_ble_eq_true rfl⟩ rfl rfl (fun H locs hW => ?_)
    refine lv_aload_n hx hb dX6_sketch_109 rfl (lv_at hl 1 rfl) ?_
    refine lv_iload_n hx hb dX6_sketch_110 rfl (lv_at hl 2 rfl) ?_
    refine lv_bipush (v := (16 : Int32)) hx hb dX6_sketch_111 (by decide) ?_
    refine lv_iadd hx hb dX6_sketch_113 ?_
    refine lv_iload hx hb dX6_sketch_114 (lv_at hl 5 rfl) ?_
    obtain ⟨o20, h21, hf⟩ := gw_bind hf
    refine gw_Vv (As := [.int (x2 + (16 : Int32)), .int x5]) (mc' := 0) (ms' := 0) F hW (mXX1_put4_11 h21) (cwV 2 hts (gT_V q_4_155 q_4_156 q_4_157 q_1_3 q_4_158) rfl rfl rfl hdX1_put4 ⟨Nat.le_of_ble_eq_true rfl, Nat.le_of_ble_eq_true rfl⟩) 11 1 (aX_11 K o17) rfl rfl hl.1 rfl (Nat.le_of_ble_eq_true rfl) dX6_sketch_116 ⟨Nat.le_of_ble_eq_true rfl, Nat.le_of_ble_eq_true rfl⟩ rfl rfl (fun H locs hW => ?_)
    refine lv_aload_n hx hb dX6_sketch_119 rfl (lv_at hl 1 rfl) ?_
    refine lv_iload_n hx hb dX6_sketch_120 rfl (lv_at hl 2 rfl) ?_
    refine lv_bipush (v := (20 : Int32)) hx hb dX6_sketch_121 (by decide) ?_
    refine lv_iadd hx hb dX6_sketch_123 ?_
    refine lv_iconst (v := (1 : Int32)) hx hb dX6_sketch_124 (by decide) ?_
    obtain ⟨o23, h24, hf⟩ := gw_bind hf
    refine gw_Vv (As := [.int (x2 + (20 : Int32)), .int (1 : Int32)]) (mc' := 0) (ms' := 0) F hW (mXX1_put4_11 h24) (cwV 2 hts (gT_V q_4_155 q_4_156 q_4_157 q_1_3 q_4_158) rfl rfl rfl hdX1_put4 ⟨Nat.le_of_ble_eq_true rfl, Nat.le_of_ble_eq_true rfl⟩) 11 1 (aX_11 K o20) rfl rfl hl.1 rfl (Nat.le_of_ble_eq_true rfl) dX6_sketch_125 ⟨Nat.le_of_ble_eq_true rfl, Nat.le_of_ble_eq_true rfl⟩ rfl rfl (fun H locs hW => ?_)
    refine lv_aload_n hx hb dX6_sketch_128 rfl (lv_at hl 1 rfl) ?_
    refine lv_iload_n hx hb dX6_sketch_129 rfl (lv_at hl 2 rfl) ?_
    refine lv_bipush (v := (32 : Int32)) hx hb dX6_sketch_130 (by decide) ?_
    refine lv_iadd hx hb dX6_sketch_132 ?_
    refine lv_aload_n hx hb dX6_sketch_133 rfl (lv_at hl 0 rfl) ?_
    refine gw_get (v := .ref (ka K 3)) F inc_X6 hW 9 6 0 (aX_9 K o23) rfl (by decide) (hG _ q_1_144) (fun _ h9 => h9) rfl dX6_sketch_134 ?_
    obtain ⟨o26, h27, hf⟩ := gw_bind hf
    refine gw_Vi (As := []) (mc' := 0) (ms' := 0) F hW (mXX2_groupBlocks_3 h27) (cwV 0 hts (gT_V q_4_171 q_4_172 q_4_173 q_1_4 q_4_174) rfl rfl rfl hdX2_groupBlocks ⟨Nat.le_of_ble_eq_true rfl, Nat.le_of_ble_eq_true rfl⟩) 3 2 (aX_3 K o23) rfl rfl hl.1 rfl (Nat.le_of_ble_eq_true rfl) dX6_sketch_137 ⟨Nat.le_of_ble_eq_true rfl, Nat.le_of_ble_eq_true rfl⟩ rfl rfl (fun H locs hW => ?_)
    obtain ⟨o29, h30, hf⟩ := gw_bind hf
    refine gw_Vv (As := [.int (x2 + (32 : Int32)), .int o26.1]) (mc' := 0) (ms' := 0) F hW (mXX1_put4_11 h30) (cwV 2 hts (gT_V q_4_155 q_4_156 q_4_157 q_1_3 q_4_158) rfl rfl rfl hdX1_put4 ⟨Nat.le_of_ble_eq_true rfl, Nat.le_of_ble_eq_true rfl⟩) 11 1 (aX_11 K o26.2) rfl rfl hl.1 rfl (Nat.le_of_ble_eq_true rfl) dX6_sketch_140 ⟨Nat.le_of_ble_eq_true rfl, Nat.le_of_ble_eq_true rfl⟩ rfl rfl (fun H locs hW => ?_)
    refine lv_aload_n hx hb dX6_sketch_143 rfl (lv_at hl 1 rfl) ?_
    refine lv_iload_n hx hb dX6_sketch_144 rfl (lv_at hl 2 rfl) ?_
    refine lv_bipush (v := (36 : Int32)) hx hb dX6_sketch_145 (by decide) ?_
    refine lv_iadd hx hb dX6_sketch_147 ?_
    refine lv_aload_n hx hb dX6_sketch_148 rfl (lv_at hl 0 rfl) ?_
    refine gw_get (v := .ref (ka K 3)) F inc_X6 hW 9 6 0 (aX_9 K o29) rfl (by decide) (hG _ q_1_144) (fun _ h9 => h9) rfl dX6_sketch_149 ?_
    obtain ⟨o32, h33, hf⟩ := gw_bind hf
    refine gw_Vi (As := []) (mc' := 0) (ms' := 0) F hW (mXX2_groupBlocks_3 h33) (cwV 0 hts (gT_V q_4_171 q_4_172 q_4_173 q_1_4 q_4_174) rfl rfl rfl hdX2_groupBlocks ⟨Nat.le_of_ble_eq_true rfl, Nat.le_of_ble_eq_true rfl⟩) 3 2 (aX_3 K o29) rfl rfl hl.1 rfl (Nat.le_of_ble_eq_true rfl) dX6_sketch_152 ⟨Nat.le_of_ble_eq_true rfl, Nat.le_of_ble_eq_true rfl⟩ rfl rfl (fun H locs hW => ?_)
    obtain ⟨o35, h36, hf⟩ := gw_bind hf
    refine gw_Vv (As := [.int (x2 + (36 : Int32)), .int o32.1]) (mc' := 0) (ms' := 0) F hW (mXX1_put4_11 h36) (cwV 2 hts (gT_V q_4_155 q_4_156 q_4_157 q_1_3 q_4_158) rfl rfl rfl hdX1_put4 ⟨Nat.le_of_ble_eq_true rfl, Nat.le_of_ble_eq_true rfl⟩) 11 1 (aX_11 K o32.2) rfl rfl hl.1 rfl (Nat.le_of_ble_eq_true rfl) dX6_sketch_155 ⟨Nat.le_of_ble_eq_true rfl, Nat.le_of_ble_eq_true rfl⟩ rfl rfl (fun H locs hW => ?_)
    refine lv_aload_n hx hb dX6_sketch_158 rfl (lv_at hl 1 rfl) ?_
    refine lv_iload_n hx hb dX6_sketch_159 rfl (lv_at hl 2 rfl) ?_
    refine lv_bipush (v := (40 : Int32)) hx hb dX6_sketch_160 (by decide) ?_
    refine lv_iadd hx hb dX6_sketch_162 ?_
    refine lv_aload_n hx hb dX6_sketch_163 rfl (lv_at hl 0 rfl) ?_
    refine gw_get (v := .ref (ka K 3)) F inc_X6 hW 9 6 0 (aX_9 K o35) rfl (by decide) (hG _ q_1_144) (fun _ h9 => h9) rfl dX6_sketch_164 ?_
    obtain ⟨o38, h39, hf⟩ := gw_bind hf
    refine gw_Vi (As := []) (mc' := 0) (ms' := 0) F hW (mXX2_groupInodes_3 h39) (cwV 0 hts (gT_V q_4_175 q_3_34 q_3_35 q_1_4 q_3_36) rfl rfl rfl hdX2_groupInodes ⟨Nat.le_of_ble_eq_true rfl, Nat.le_of_ble_eq_true rfl⟩) 3 2 (aX_3 K o35) rfl rfl hl.1 rfl (Nat.le_of_ble_eq_true rfl) dX6_sketch_167 ⟨Nat.le_of_ble_eq_true rfl, Nat.le_of_ble_eq_true rfl⟩ rfl rfl (fun H locs hW => ?_)
    obtain ⟨o41, h42, hf⟩ := gw_bind hf
    refine gw_Vv (As := [.int (x2 + (40 : Int32)), .int o38.1]) (mc' := 0) (ms' := 0) F hW (mXX1_put4_11 h42) (cwV 2 hts (gT_V q_4_155 q_4_156 q_4_157 q_1_3 q_4_158) rfl rfl rfl hdX1_put4 ⟨Nat.le_of_ble_eq_true rfl, Nat.le_of_ble_eq_true rfl⟩) 11 1 (aX_11 K o38.2) rfl rfl hl.1 rfl (Nat.le_of_ble_eq_true rfl) dX6_sketch_170 ⟨Nat.le_of_ble_eq_true rfl, Nat.le_of_ble_eq_true rfl⟩ rfl rfl (fun H locs hW => ?_)
    refine lv_aload_n hx hb dX6_sketch_173 rfl (lv_at hl 1 rfl) ?_
    refine lv_iload_n hx hb dX6_sketch_174 rfl (lv_at hl 2 rfl) ?_
    refine lv_bipush (v := (54 : Int32)) hx hb dX6_sketch_175 (by decide) ?_
    refine lv_iadd hx hb dX6_sketch_177 ?_
    refine lv_ldc (own := RX6) (v := (65535 : Int32)) hx hb hown (hts _ (List.mem_cons_of_mem _ q_4_176)) dX6_sketch_178 ?_
    obtain ⟨o44, h45, hf⟩ := gw_bind hf
    refine gw_Vv (As := [.int (x2 + (54 : Int32)), .int (65535 : Int32)]) (mc' := 0) (ms' := 0) F hW (mXX1_put2_11 h45) (cwV 2 hts (gT_V q_4_159 q_4_160 q_4_161 q_1_3 q_4_162) rfl rfl rfl hdX1_put2 ⟨Nat.le_of_ble_eq_true rfl, Nat.le_of_ble_eq_true rfl⟩) 11 1 (aX_11 K o41) rfl rfl hl.1 rfl (Nat.le_of_ble_eq_true rfl) dX6_sketch_180 ⟨Nat.le_of_ble_eq_true rfl, Nat.le_of_ble_eq_true rfl⟩ rfl rfl (fun H locs hW => ?_)
    refine lv_aload_n hx hb dX6_sketch_183 rfl (lv_at hl 1 rfl) ?_
    refine lv_iload_n hx hb dX6_sketch_184 rfl (lv_at hl 2 rfl) ?_
    refine lv_bipush (v := (56 : Int32)) hx hb dX6_sketch_185 (by decide) ?_
    refine lv_iadd hx hb dX6_sketch_187 ?_
    refine lv_ldc (own := RX6) (v := (61267 : Int32)) hx hb hown (hts _ (List.mem_cons_of_mem _ q_4_177)) dX6_sketch_188 ?_
    obtain ⟨o47, h48, hf⟩ := gw_bind hf
    refine gw_Vv (As := [.int (x2 + (56 : Int32)), .int (61267 : Int32)]) (mc' := 0) (ms' := 0) F hW (mXX1_put2_11 h48) (cwV 2 hts (gT_V q_4_159 q_4_160 q_4_161 q_1_3 q_4_162) rfl rfl rfl hdX1_put2 ⟨Nat.le_of_ble_eq_true rfl, Nat.le_of_ble_eq_true rfl⟩) 11 1 (aX_11 K o44) rfl rfl hl.1 rfl (Nat.le_of_ble_eq_true rfl) dX6_sketch_190 ⟨Nat.le_of_ble_eq_true rfl, Nat.le_of_ble_eq_true rfl⟩ rfl rfl (fun H locs hW => ?_)
    refine lv_aload_n hx hb dX6_sketch_193 rfl (lv_at hl 1 rfl) ?_
    refine lv_iload_n hx hb dX6_sketch_194 rfl (lv_at hl 2 rfl) ?_
    refine lv_bipush (v := (58 : Int32)) hx hb dX6_sketch_195 (by decide) ?_
    refine lv_iadd hx hb dX6_sketch_197 ?_
    refine lv_iconst (v := (1 : Int32)) hx hb dX6_sketch_198 (by decide) ?_
    obtain ⟨o50, h51, hf⟩ := gw_bind hf
    refine gw_Vv (As := [.int (x2 + (58 : Int32)), .int (1 : Int32)]) (mc' := 0) (ms' := 0) F hW (mXX1_put2_11 h51) (cwV 2 hts (gT_V q_4_159 q_4_160 q_4_161 q_1_3 q_4_162) rfl rfl rfl hdX1_put2 ⟨Nat.le_of_ble_eq_true rfl, Nat.le_of_ble_eq_true rfl⟩) 11 1 (aX_11 K o47) rfl rfl hl.1 rfl (Nat.le_of_ble_eq_true rfl) dX6_sketch_199 ⟨Nat.le_of_ble_eq_true rfl, Nat.le_of_ble_eq_true rfl⟩ rfl rfl (fun H locs hW => ?_)
    refine lv_aload_n hx hb dX6_sketch_202 rfl (lv_at hl 1 rfl) ?_
    refine lv_iload_n hx hb dX6_sketch_203 rfl (lv_at hl 2 rfl) ?_
    refine lv_bipush (v := (60 : Int32)) hx hb dX6_sketch_204 (by decide) ?_
    refine lv_iadd hx hb dX6_sketch_206 ?_
    refine lv_iconst (v := (1 : Int32)) hx hb dX6_sketch_207 (by decide) ?_
    obtain ⟨o53, h54, hf⟩ := gw_bind hf
    refine gw_Vv (As := [.int (x2 + (60 : Int32)), .int (1 : Int32)]) (mc' := 0) (ms' := 0) F hW (mXX1_put2_11 h54) (cwV 2 hts (gT_V q_4_159 q_4_160 q_4_161 q_1_3 q_4_162) rfl rfl rfl hdX1_put2 ⟨Nat.le_of_ble_eq_true rfl, Nat.le_of_ble_eq_true rfl⟩) 11 1 (aX_11 K o50) rfl rfl hl.1 rfl (Nat.le_of_ble_eq_true rfl) dX6_sketch_208 ⟨Nat.le_of_ble_eq_true rfl, Nat.le_of_ble_eq_true rfl⟩ rfl rfl (fun H locs hW => ?_)
    refine lv_aload_n hx hb dX6_sketch_211 rfl (lv_at hl 1 rfl) ?_
    refine lv_iload_n hx hb dX6_sketch_212 rfl (lv_at hl 2 rfl) ?_
    refine lv_bipush (v := (76 : Int32)) hx hb dX6_sketch_213 (by decide) ?_
    refine lv_iadd hx hb dX6_sketch_215 ?_
    refine lv_iconst (v := (1 : Int32)) hx hb dX6_sketch_216 (by decide) ?_
    obtain ⟨o56, h57, hf⟩ := gw_bind hf
    refine gw_Vv (As := [.int (x2 + (76 : Int32)), .int (1 : Int32)]) (mc' := 0) (ms' := 0) F hW (mXX1_put4_11 h57) (cwV 2 hts (gT_V q_4_155 q_4_156 q_4_157 q_1_3 q_4_158) rfl rfl rfl hdX1_put4 ⟨Nat.le_of_ble_eq_true rfl, Nat.le_of_ble_eq_true rfl⟩) 11 1 (aX_11 K o53) rfl rfl hl.1 rfl (Nat.le_of_ble_eq_true rfl) dX6_sketch_217 ⟨Nat.le_of_ble_eq_true rfl, Nat.le_of_ble_eq_true rfl⟩ rfl rfl (fun H locs hW => ?_)
    refine lv_aload_n hx hb dX6_sketch_220 rfl (lv_at hl 1 rfl) ?_
    refine lv_iload_n hx hb dX6_sketch_221 rfl (lv_at hl 2 rfl) ?_
    refine lv_bipush (v := (84 : Int32)) hx hb dX6_sketch_222 (by decide) ?_
    refine lv_iadd hx hb dX6_sketch_224 ?_
    refine lv_bipush (v := (11 : Int32)) hx hb dX6_sketch_225 (by decide) ?_
    obtain ⟨o59, h60, hf⟩ := gw_bind hf
    refine gw_Vv (As := [.int (x2 + (84 : Int32)), .int (11 : Int32)]) (mc' := 0) (ms' := 0) F hW (mXX1_put4_11 h60) (cwV 2 hts (gT_V q_4_155 q_4_156 q_4_157 q_1_3 q_4_158) rfl rfl rfl hdX1_put4 ⟨Nat.le_of_ble_eq_true rfl, Nat.le_of_ble_eq_true rfl⟩) 11 1 (aX_11 K o56) rfl rfl hl.1 rfl (Nat.le_of_ble_eq_true rfl) dX6_sketch_227 ⟨Nat.le_of_ble_eq_true rfl, Nat.le_of_ble_eq_true rfl⟩ rfl rfl (fun H locs hW => ?_)
    refine lv_aload_n hx hb dX6_sketch_230 rfl (lv_at hl 1 rfl) ?_
    refine lv_iload_n hx hb dX6_sketch_231 rfl (lv_at hl 2 rfl) ?_
    refine lv_bipush (v := (88 : Int32)) hx hb dX6_sketch_232 (by decide) ?_
    refine lv_iadd hx hb dX6_sketch_234 ?_
    refine lv_sipush (v := (128 : Int32)) hx hb dX6_sketch_235 (by decide) ?_
    obtain ⟨o62, h63, hf⟩ := gw_bind hf
    refine gw_Vv (As := [.int (x2 + (88 : Int32)), .int (128 : Int32)]) (mc' := 0) (ms' := 0) F hW (mXX1_put2_11 h63) (cwV 2 hts (gT_V q_4_159 q_4_160 q_4_161 q_1_3 q_4_162) rfl rfl rfl hdX1_put2 ⟨Nat.le_of_ble_eq_true rfl, Nat.le_of_ble_eq_true rfl⟩) 11 1 (aX_11 K o59) rfl rfl hl.1 rfl (Nat.le_of_ble_eq_true rfl) dX6_sketch_238 ⟨Nat.le_of_ble_eq_true rfl, Nat.le_of_ble_eq_true rfl⟩ rfl rfl (fun H locs hW => ?_)
    refine lv_aload_n hx hb dX6_sketch_241 rfl (lv_at hl 1 rfl) ?_
    refine lv_iload_n hx hb dX6_sketch_242 rfl (lv_at hl 2 rfl) ?_
    refine lv_bipush (v := (96 : Int32)) hx hb dX6_sketch_243 (by decide) ?_
    refine lv_iadd hx hb dX6_sketch_245 ?_
    refine lv_iconst (v := (2 : Int32)) hx hb dX6_sketch_246 (by decide) ?_
    obtain ⟨o65, h66, hf⟩ := gw_bind hf
    refine gw_Vv (As := [.int (x2 + (96 : Int32)), .int (2 : Int32)]) (mc' := 0) (ms' := 0) F hW (mXX1_put4_11 h66) (cwV 2 hts (gT_V q_4_155 q_4_156 q_4_157 q_1_3 q_4_158) rfl rfl rfl hdX1_put4 ⟨Nat.le_of_ble_eq_true rfl, Nat.le_of_ble_eq_true rfl⟩) 11 1 (aX_11 K o62) rfl rfl hl.1 rfl (Nat.le_of_ble_eq_true rfl) dX6_sketch_247 ⟨Nat.le_of_ble_eq_true rfl, Nat.le_of_ble_eq_true rfl⟩ rfl rfl (fun H locs hW => ?_)
    refine lv_aload_n hx hb dX6_sketch_250 rfl (lv_at hl 1 rfl) ?_
    refine lv_iload_n hx hb dX6_sketch_251 rfl (lv_at hl 2 rfl) ?_
    refine lv_bipush (v := (104 : Int32)) hx hb dX6_sketch_252 (by decide) ?_
    refine lv_iadd hx hb dX6_sketch_254 ?_
    refine lv_iload_n hx hb dX6_sketch_255 rfl (lv_at hl 3 rfl) ?_
    obtain ⟨o68, h69, hf⟩ := gw_bind hf
    refine gw_Vv (As := [.int (x2 + (104 : Int32)), .int x3]) (mc' := 0) (ms' := 0) F hW (mXX1_put4_11 h69) (cwV 2 hts (gT_V q_4_155 q_4_156 q_4_157 q_1_3 q_4_158) rfl rfl rfl hdX1_put4 ⟨Nat.le_of_ble_eq_true rfl, Nat.le_of_ble_eq_true rfl⟩) 11 1 (aX_11 K o65) rfl rfl hl.1 rfl (Nat.le_of_ble_eq_true rfl) dX6_sketch_256 ⟨Nat.le_of_ble_eq_true rfl, Nat.le_of_ble_eq_true rfl⟩ rfl rfl (fun H locs hW => ?_)
    exact gw_retv F hW hf dX6_sketch_259
  · replace hf := (if_neg c4).symm.trans hf
    refine lv_iload hx hb dX6_sketch_21 (lv_at hl 4 rfl) ?_
    refine lv_aload_n hx hb dX6_sketch_23 rfl (lv_at hl 0 rfl) ?_
    refine gw_get (v := .ref (ka K 4)) F inc_X6 hW 9 6 1 (aX_9 K o1.2) rfl (by decide) (hG _ q_1_145) (fun _ h9 => h9) rfl dX6_sketch_24 ?_
    refine lv_iload hx hb dX6_sketch_27 (lv_at hl 6 rfl) ?_
    obtain ⟨o71, h72, hf⟩ := gw_bind hf
    refine gw_Vi (As := [.int x6]) (mc' := 0) (ms' := 0) F hW (mXX3_freeIn_4 h72) (cwV 1 hts (gT_V q_4_140 q_4_141 q_4_142 q_1_5 q_4_143) rfl rfl rfl hdX3_freeIn ⟨Nat.le_of_ble_eq_true rfl, Nat.le_of_ble_eq_true rfl⟩) 4 3 (aX_4 K o1.2) rfl rfl hl.1 rfl (Nat.le_of_ble_eq_true rfl) dX6_sketch_29 ⟨Nat.le_of_ble_eq_true rfl, Nat.le_of_ble_eq_true rfl⟩ rfl rfl (fun H locs hW => ?_)
    refine lv_iadd hx hb dX6_sketch_32 ?_
    refine lv_istore (lv' := [(4, .int (x4 + o71.1)), (0, .ref (ka K 9)), (1, .ref (ka K 11)), (2, .int x2), (3, .int x3), (5, .int x5), (6, .int x6)]) hx hb dX6_sketch_33 hl (by decide) rfl (fun ls hl => ?_)
    refine lv_iload hx hb dX6_sketch_35 (lv_at hl 5 rfl) ?_
    refine lv_aload_n hx hb dX6_sketch_37 rfl (lv_at hl 1 rfl) ?_
    refine gw_get (v := .ref (ka K 5)) F inc_X6 hW 9 6 2 (aX_9 K o71.2) rfl (by decide) (hG _ q_1_146) (fun _ h9 => h9) rfl dX6_sketch_38 ?_
    refine lv_iload hx hb dX6_sketch_41 (lv_at hl 6 rfl) ?_
    obtain ⟨o74, h75, hf⟩ := gw_bind hf
    refine gw_Vi (As := [.int x6]) (mc' := 0) (ms' := 0) F hW (mXX3_freeIn_5 h75) (cwV 1 hts (gT_V q_4_140 q_4_141 q_4_142 q_1_5 q_4_143) rfl rfl rfl hdX3_freeIn ⟨Nat.le_of_ble_eq_true rfl, Nat.le_of_ble_eq_true rfl⟩) 5 3 (aX_5 K o71.2) rfl rfl hl.1 rfl (Nat.le_of_ble_eq_true rfl) dX6_sketch_43 ⟨Nat.le_of_ble_eq_true rfl, Nat.le_of_ble_eq_true rfl⟩ rfl rfl (fun H locs hW => ?_)
    refine lv_iadd hx hb dX6_sketch_46 ?_
    refine lv_istore (lv' := [(5, .int (x5 + o74.1)), (4, .int (x4 + o71.1)), (0, .ref (ka K 9)), (1, .ref (ka K 11)), (2, .int x2), (3, .int x3), (6, .int x6)]) hx hb dX6_sketch_47 hl (by decide) rfl (fun ls hl => ?_)
    refine lv_aload_n hx hb dX6_sketch_49 rfl (lv_at hl 2 rfl) ?_
    refine lv_aload_n hx hb dX6_sketch_50 rfl (lv_at hl 3 rfl) ?_
    refine lv_iload_n hx hb dX6_sketch_51 rfl (lv_at hl 4 rfl) ?_
    refine lv_sipush (v := (1024 : Int32)) hx hb dX6_sketch_52 (by decide) ?_
    refine lv_iadd hx hb dX6_sketch_55 ?_
    refine lv_bipush (v := (32 : Int32)) hx hb dX6_sketch_56 (by decide) ?_
    refine lv_iload hx hb dX6_sketch_58 (lv_at hl 6 rfl) ?_
    refine lv_imul hx hb dX6_sketch_60 ?_
    refine lv_iadd hx hb dX6_sketch_61 ?_
    refine lv_iload hx hb dX6_sketch_62 (lv_at hl 6 rfl) ?_
    obtain ⟨o77, h78, hf⟩ := gw_bind hf
    refine gw_Vv (As := [.ref (ka K 11), .int ((x2 + (1024 : Int32)) + ((32 : Int32) * x6)), .int x6]) (mc' := 0) (ms' := 0) F hW (mXX6_describe_9_11 h78) (cwV 3 hts (gT_V q_4_150 q_4_152 qp_22 q_1_8 q_4_153) rfl rfl rfl hdX6_describe ⟨Nat.le_of_ble_eq_true rfl, Nat.le_of_ble_eq_true rfl⟩) 9 6 (aX_9 K o74.2) rfl rfl hl.1 rfl (Nat.le_of_ble_eq_true rfl) dX6_sketch_64 ⟨Nat.le_of_ble_eq_true rfl, Nat.le_of_ble_eq_true rfl⟩ rfl rfl (fun H locs hW => ?_)
    refine lv_iinc (v := (x6 + (1 : Int32))) (lv' := [(6, .int (x6 + (1 : Int32))), (5, .int (x5 + o74.1)), (4, .int (x4 + o71.1)), (0, .ref (ka K 9)), (1, .ref (ka K 11)), (2, .int x2), (3, .int x3)]) hx hb dX6_sketch_67 hl (k := 6) rfl rfl (by decide) rfl (fun ls hl => ?_)
    refine lv_goto (tgt := 9) hx hb dX6_sketch_70 (by decide) ?_
    exact hk9 _ _ hf _ _ _ (lv_sub hl [3, 4, 5, 6, 2, 1, 0] rfl) hW
set_option maxHeartbeats 4000000 in
set_option maxRecDepth 100000 in
theorem wXX6_sketch_9_11_0 {p : Program} {l : Launch} {e : Env} {s : State} {m : MethodId} {args : Array Value} {below : List Frame} {meth : Method} {c : Code} {A : Nat → Prop} {K : KX} (F : fx_ p s m args meth c cX6_sketch 7 none RX6 wsX6_sketch) (x2 : Int32) (x3 : Int32) (σ : XS) (o : XS) (hf : fXX6_sketch_9_11_0 (kn K) x2 x3 σ = some o) (H : Heap) (locs : List Loc) (ls : Array Slot) (hl : lv_has ls 7 [(0, .ref (ka K 9)), (1, .ref (ka K 11)), (2, .int x2), (3, .int x3)]) (hW : gw_ (kD K) vwCl (tyX K) (wX K) A s σ H locs) : W p l e rXX6_sketch_9_11 s m args below meth c H locs 0 0 (MQ below (gw_Qv (kD K) vwCl (tyX K) (wX K) A o) args s rXX6_sketch_9_11.cells rXX6_sketch_9_11.slots A) (F0 m 0 ls []) := by
  have hx := F.1
  have hb := F.2.1
  have hml := F.2.2.2.1
  have hown := F.2.2.2.2.1
  have hts := F.2.2.2.2.2.1
  have hG : ∀ x ∈ gT, x.before args s = true := fun x h => hts x (List.mem_cons_of_mem _ h)
  unfold fXX6_sketch_9_11_0 at hf
  refine lv_iconst (v := (0 : Int32)) hx hb dX6_sketch_0 (by decide) ?_
  refine lv_istore (lv' := [(4, .int (0 : Int32)), (0, .ref (ka K 9)), (1, .ref (ka K 11)), (2, .int x2), (3, .int x3)]) hx hb dX6_sketch_1 hl (by decide) rfl (fun ls hl => ?_)
  refine lv_iconst (v := (0 : Int32)) hx hb dX6_sketch_3 (by decide) ?_
  refine lv_istore (lv' := [(5, .int (0 : Int32)), (4, .int (0 : Int32)), (0, .ref (ka K 9)), (1, .ref (ka K 11)), (2, .int x2), (3, .int x3)]) hx hb dX6_sketch_4 hl (by decide) rfl (fun ls hl => ?_)
  refine lv_iconst (v := (0 : Int32)) hx hb dX6_sketch_6 (by decide) ?_
  refine lv_istore (lv' := [(6, .int (0 : Int32)), (5, .int (0 : Int32)), (4, .int (0 : Int32)), (0, .ref (ka K 9)), (1, .ref (ka K 11)), (2, .int x2), (3, .int x3)]) hx hb dX6_sketch_7 hl (by decide) rfl (fun ls hl => ?_)
  exact lfix_ind (P := PXX6_sketch_9_11_9 p l e s m args below meth c A K) (fun k9 hk9 t o hf => wXX6_sketch_9_11_9 F hk9 t.1 t.2.1 t.2.2.1 t.2.2.2.1 t.2.2.2.2.1 t.2.2.2.2.2 o hf) FU _ _ hf _ _ _ (lv_sub hl [3, 4, 5, 6, 2, 1, 0] rfl) hW
set_option maxHeartbeats 4000000 in
set_option maxRecDepth 100000 in
theorem mXX6_sketch_9_11 {l : Launch} {K : KX} {σ : XS} {x2 : Int32} {x3 : Int32} {o : XS} (hf : fXX6_sketch_9_11 (kn K) x2 x3 σ = some o) : gw_Mv l (kD K) vwCl (tyX K) (wX K) yX6_sketch wsX6_sketch rXX6_sketch_9_11 [.ref (ka K 9), .ref (ka K 11), .int x2, .int x3] σ o := by
  intro sz
  refine gw_body (cc := cX6_sketch) (maxL := 7) (yret := none) (by decide +kernel) rfl ?_ (Nat.le_of_ble_eq_true rfl)
  intro p e s m below meth c F hsz hW ls hl
  exact wXX6_sketch_9_11_0 F x2 x3 σ o hf s.heap [] ls hl hW
abbrev rXX1_get_11 : Room := { frames := 0, cells := 0, slots := 0, locals := 0 }
set_option maxHeartbeats 4000000 in
set_option maxRecDepth 100000 in
theorem wXX1_get_11_0 {p : Program} {l : Launch} {e : Env} {s : State} {m : MethodId} {args : Array Value} {below : List Frame} {meth : Method} {c : Code} {A : Nat → Prop} {K : KX} (F : fx_ p s m args meth c cX1_get 2 (some .int) RX1 wsX1_get) (x1 : Int32) (σ : XS) (o : (Int32 × XS)) (hf : fXX1_get_11_0 (kn K) x1 σ = some o) (H : Heap) (locs : List Loc) (ls : Array Slot) (hl : lv_has ls 2 [(0, .ref (ka K 11)), (1, .int x1)]) (hW : gw_ (kD K) vwCl (tyX K) (wX K) A s σ H locs) : W p l e rXX1_get_11 s m args below meth c H locs 0 0 (MQ below (gw_Qi (kD K) vwCl (tyX K) (wX K) A o) args s rXX1_get_11.cells rXX1_get_11.slots A) (F0 m 0 ls []) := by
  have hx := F.1
  have hb := F.2.1
  have hml := F.2.2.2.1
  have hown := F.2.2.2.2.1
  have hts := F.2.2.2.2.2.1
  have hG : ∀ x ∈ gT, x.before args s = true := fun x h => hts x (List.mem_cons_of_mem _ h)
  unfold fXX1_get_11_0 at hf
  refine lv_iload_n hx hb dX1_get_0 rfl (lv_at hl 1 rfl) ?_
  refine lv_if_lt (tgt := 26) hx hb dX1_get_1 (by decide) (fun c1 => ?_) (fun c1 => ?_)
  · replace hf := (if_pos c1).symm.trans hf
    refine lv_iconst (v := (0 : Int32)) hx hb dX1_get_26 (by decide) ?_
    exact gw_reti F hW hf dX1_get_27
  · replace hf := (if_neg c1).symm.trans hf
    refine lv_iload_n hx hb dX1_get_4 rfl (lv_at hl 1 rfl) ?_
    refine lv_aload_n hx hb dX1_get_5 rfl (lv_at hl 0 rfl) ?_
    refine gw_get (v := .ref (ka K 12)) F inc_X1 hW 11 1 0 (aX_11 K σ) rfl (by decide) (hG _ q_1_53) (fun _ h9 => h9) rfl dX1_get_6 ?_
    refine gw_alen F hW 12 2 (aX_12 K σ) rfl dX1_get_9 ?_
    refine lv_icmp_ge (tgt := 26) hx hb dX1_get_10 (by decide) (fun c2 => ?_) (fun c2 => ?_)
    · replace hf := (if_pos c2).symm.trans hf
      refine lv_iconst (v := (0 : Int32)) hx hb dX1_get_26 (by decide) ?_
      exact gw_reti F hW hf dX1_get_27
    · replace hf := (if_neg c2).symm.trans hf
      refine lv_aload_n hx hb dX1_get_13 rfl (lv_at hl 0 rfl) ?_
      refine gw_get (v := .ref (ka K 12)) F inc_X1 hW 11 1 0 (aX_11 K σ) rfl (by decide) (hG _ q_1_53) (fun _ h9 => h9) rfl dX1_get_14 ?_
      refine lv_iload_n hx hb dX1_get_17 rfl (lv_at hl 1 rfl) ?_
      rcases Decidable.em (x1 < 0 ∨ 2048 ≤ x1.toNatClampNeg) with c3 | c3
      · replace hf := (if_pos c3).symm.trans hf
        exact absurd hf (by simp)
      · replace hf := (if_neg c3).symm.trans hf
        refine gw_bald F hW 12 2 (aX_12 K σ) rfl c3 dX1_get_18 ?_
        refine lv_sipush (v := (255 : Int32)) hx hb dX1_get_19 (by decide) ?_
        refine lv_iand hx hb dX1_get_22 ?_
        refine lv_goto (tgt := 27) hx hb dX1_get_23 (by decide) ?_
        exact gw_reti F hW hf dX1_get_27
set_option maxHeartbeats 4000000 in
set_option maxRecDepth 100000 in
theorem mXX1_get_11 {l : Launch} {K : KX} {σ : XS} {x1 : Int32} {o : (Int32 × XS)} (hf : fXX1_get_11 (kn K) x1 σ = some o) : gw_Mi l (kD K) vwCl (tyX K) (wX K) yX1_get wsX1_get rXX1_get_11 [.ref (ka K 11), .int x1] σ o := by
  intro sz
  refine gw_body (cc := cX1_get) (maxL := 2) (yret := some .int) (by decide +kernel) rfl ?_ (Nat.le_of_ble_eq_true rfl)
  intro p e s m below meth c F hsz hW ls hl
  exact wXX1_get_11_0 F x1 σ o hf s.heap [] ls hl hW
abbrev rXX7_headsHold_10 : Room := { frames := 4, cells := 0, slots := 0, locals := 96 }
def PXX7_headsHold_10_73 (p : Program) (l : Launch) (e : Env) (s : State) (m : MethodId) (args : Array Value) (below : List Frame) (meth : Method) (c : Code) (A : Nat → Prop) (K : KX) (t : (Int32 × Int32 × Int32 × XS)) (o : (Int32 × XS)) : Prop := ∀ (H : Heap) (locs : List Loc) (ls : Array Slot), lv_has ls 4 [(0, .ref (ka K 10)), (1, .int t.1), (2, .int t.2.1), (3, .int t.2.2.1)] → gw_ (kD K) vwCl (tyX K) (wX K) A s t.2.2.2 H locs → W p l e rXX7_headsHold_10 s m args below meth c H locs 0 0 (MQ below (va_Qi (fun r u => (r = o.1 ∧ u = o.2) ∧ (o.1 = 0 ∨ o.1 = 1)) (gw_B (kD K) vwCl (tyX K) (wX K) A) A) args s rXX7_headsHold_10.cells rXX7_headsHold_10.slots A) (F0 m 73 ls [])
def PXX7_headsHold_10_40 (p : Program) (l : Launch) (e : Env) (s : State) (m : MethodId) (args : Array Value) (below : List Frame) (meth : Method) (c : Code) (A : Nat → Prop) (K : KX) (t : (Int32 × XS)) (o : (Int32 × XS)) : Prop := ∀ (H : Heap) (locs : List Loc) (ls : Array Slot), lv_has ls 4 [(0, .ref (ka K 10)), (1, .int t.1)] → gw_ (kD K) vwCl (tyX K) (wX K) A s t.2 H locs → W p l e rXX7_headsHold_10 s m args below meth c H locs 0 0 (MQ below (va_Qi (fun r u => (r = o.1 ∧ u = o.2) ∧ (o.1 = 0 ∨ o.1 = 1)) (gw_B (kD K) vwCl (tyX K) (wX K) A) A) args s rXX7_headsHold_10.cells rXX7_headsHold_10.slots A) (F0 m 40 ls [])
set_option maxHeartbeats 4000000 in
set_option maxRecDepth 100000 in
theorem wXX7_headsHold_10_73 {p : Program} {l : Launch} {e : Env} {s : State} {m : MethodId} {args : Array Value} {below : List Frame} {meth : Method} {c : Code} {A : Nat → Prop} {K : KX} (F : fx_ p s m args meth c cX7_headsHold 4 (some .boolean) RX7 wsX7_headsHold) {k40 : (Int32 × XS) → Option (Int32 × XS)} (hk40 : ∀ t o, k40 t = some o → PXX7_headsHold_10_40 p l e s m args below meth c A K t o) {k73 : (Int32 × Int32 × Int32 × XS) → Option (Int32 × XS)} (hk73 : ∀ t o, k73 t = some o → PXX7_headsHold_10_73 p l e s m args below meth c A K t o) (x1 : Int32) (x2 : Int32) (x3 : Int32) (σ : XS) (o : (Int32 × XS)) (hf : fXX7_headsHold_10_73 (kn K) k40 k73 x1 x2 x3 σ = some o) (H : Heap) (locs : List Loc) (ls : Array Slot) (hl : lv_has ls 4 [(0, .ref (ka K 10)), (1, .int x1), (2, .int x2), (3, .int x3)]) (hW : gw_ (kD K) vwCl (tyX K) (wX K) A s σ H locs) : W p l e rXX7_headsHold_10 s m args below meth c H locs 0 0 (MQ below (va_Qi (fun r u => (r = o.1 ∧ u = o.2) ∧ (o.1 = 0 ∨ o.1 = 1)) (gw_B (kD K) vwCl (tyX K) (wX K) A) A) args s rXX7_headsHold_10.cells rXX7_headsHold_10.slots A) (F0 m 73 ls []) := by
  have hx := F.1
  have hb := F.2.1
  have hml := F.2.2.2.1
  have hown := F.2.2.2.2.1
  have hts := F.2.2.2.2.2.1
  have hG : ∀ x ∈ gT, x.before args s = true := fun x h => hts x (List.mem_cons_of_mem _ h)
  unfold fXX7_headsHold_10_73 at hf
  refine lv_iload_n hx hb dX7_headsHold_73 rfl (lv_at hl 3 rfl) ?_
  refine lv_aload_n hx hb dX7_headsHold_74 rfl (lv_at hl 0 rfl) ?_
  refine gw_get (v := .ref (ka K 11)) F inc_X7 hW 10 7 7 (aX_10 K σ) rfl (by decide) (hG _ q_1_177) (fun _ h9 => h9) rfl dX7_headsHold_75 ?_
  obtain ⟨o23, h24, hf⟩ := gw_bind hf
  refine gw_Vi (As := []) (mc' := 0) (ms' := 0) F hW (mXX1_length_11 h24) (cwV 0 hts (gT_V q_2_118 q_2_44 q_2_45 q_1_3 q_2_46) rfl rfl rfl hdX1_length ⟨Nat.le_of_ble_eq_true rfl, Nat.le_of_ble_eq_true rfl⟩) 11 1 (aX_11 K σ) rfl rfl hl.1 rfl (Nat.le_of_ble_eq_true rfl) dX7_headsHold_78 ⟨Nat.le_of_ble_eq_true rfl, Nat.le_of_ble_eq_true rfl⟩ rfl rfl (fun H locs hW => ?_)
  refine lv_icmp_ge (tgt := 113) hx hb dX7_headsHold_81 (by decide) (fun c26 => ?_) (fun c26 => ?_)
  · replace hf := (if_pos c26).symm.trans hf
    refine lv_iinc (v := (x1 + (1 : Int32))) (lv' := [(1, .int (x1 + (1 : Int32))), (0, .ref (ka K 10)), (2, .int x2), (3, .int x3)]) hx hb dX7_headsHold_113 hl (k := 1) rfl rfl (by decide) rfl (fun ls hl => ?_)
    refine lv_goto (tgt := 40) hx hb dX7_headsHold_116 (by decide) ?_
    exact hk40 _ _ hf _ _ _ (lv_sub hl [1, 0] rfl) hW
  · replace hf := (if_neg c26).symm.trans hf
    refine lv_aload_n hx hb dX7_headsHold_84 rfl (lv_at hl 0 rfl) ?_
    refine gw_get (v := .ref (ka K 1)) F inc_X7 hW 10 7 0 (aX_10 K o23.2) rfl (by decide) (hG _ q_1_170) (fun _ h9 => h9) rfl dX7_headsHold_85 ?_
    refine lv_iload_n hx hb dX7_headsHold_88 rfl (lv_at hl 2 rfl) ?_
    refine lv_iload_n hx hb dX7_headsHold_89 rfl (lv_at hl 3 rfl) ?_
    refine lv_iadd hx hb dX7_headsHold_90 ?_
    obtain ⟨o27, h28, hf⟩ := gw_bind hf
    refine gw_Vi (As := [.int (x2 + x3)]) (mc' := 0) (ms' := 0) F hW (mXX1_get_1 h28) (cwV 1 hts (gT_V q_2_209 q_2_56 q_2_57 q_1_3 q_2_58) rfl rfl rfl hdX1_get ⟨Nat.le_of_ble_eq_true rfl, Nat.le_of_ble_eq_true rfl⟩) 1 1 (aX_1 K o23.2) rfl rfl hl.1 rfl (Nat.le_of_ble_eq_true rfl) dX7_headsHold_91 ⟨Nat.le_of_ble_eq_true rfl, Nat.le_of_ble_eq_true rfl⟩ rfl rfl (fun H locs hW => ?_)
    refine lv_aload_n hx hb dX7_headsHold_94 rfl (lv_at hl 0 rfl) ?_
    refine gw_get (v := .ref (ka K 11)) F inc_X7 hW 10 7 7 (aX_10 K o27.2) rfl (by decide) (hG _ q_1_177) (fun _ h9 => h9) rfl dX7_headsHold_95 ?_
    refine lv_iload_n hx hb dX7_headsHold_98 rfl (lv_at hl 3 rfl) ?_
    obtain ⟨o30, h31, hf⟩ := gw_bind hf
    refine gw_Vi (As := [.int x3]) (mc' := 0) (ms' := 0) F hW (mXX1_get_11 h31) (cwV 1 hts (gT_V q_2_209 q_2_56 q_2_57 q_1_3 q_2_58) rfl rfl rfl hdX1_get ⟨Nat.le_of_ble_eq_true rfl, Nat.le_of_ble_eq_true rfl⟩) 11 1 (aX_11 K o27.2) rfl rfl hl.1 rfl (Nat.le_of_ble_eq_true rfl) dX7_headsHold_99 ⟨Nat.le_of_ble_eq_true rfl, Nat.le_of_ble_eq_true rfl⟩ rfl rfl (fun H locs hW => ?_)
    refine lv_icmp_eq (tgt := 107) hx hb dX7_headsHold_102 (by decide) (fun c33 => ?_) (fun c33 => ?_)
    · replace hf := (if_pos c33).symm.trans hf
      refine lv_iinc (v := (x3 + (1 : Int32))) (lv' := [(3, .int (x3 + (1 : Int32))), (0, .ref (ka K 10)), (1, .int x1), (2, .int x2)]) hx hb dX7_headsHold_107 hl (k := 3) rfl rfl (by decide) rfl (fun ls hl => ?_)
      refine lv_goto (tgt := 73) hx hb dX7_headsHold_110 (by decide) ?_
      exact hk73 _ _ hf _ _ _ (lv_sub hl [1, 2, 3, 0] rfl) hW
    · replace hf := (if_neg c33).symm.trans hf
      refine lv_iconst (v := (0 : Int32)) hx hb dX7_headsHold_105 (by decide) ?_
      exact gw_retz F hW hf (Or.inl rfl) dX7_headsHold_106
set_option maxHeartbeats 4000000 in
set_option maxRecDepth 100000 in
theorem wXX7_headsHold_10_40 {p : Program} {l : Launch} {e : Env} {s : State} {m : MethodId} {args : Array Value} {below : List Frame} {meth : Method} {c : Code} {A : Nat → Prop} {K : KX} (F : fx_ p s m args meth c cX7_headsHold 4 (some .boolean) RX7 wsX7_headsHold) {k40 : (Int32 × XS) → Option (Int32 × XS)} (hk40 : ∀ t o, k40 t = some o → PXX7_headsHold_10_40 p l e s m args below meth c A K t o) (x1 : Int32) (σ : XS) (o : (Int32 × XS)) (hf : fXX7_headsHold_10_40 (kn K) k40 x1 σ = some o) (H : Heap) (locs : List Loc) (ls : Array Slot) (hl : lv_has ls 4 [(0, .ref (ka K 10)), (1, .int x1)]) (hW : gw_ (kD K) vwCl (tyX K) (wX K) A s σ H locs) : W p l e rXX7_headsHold_10 s m args below meth c H locs 0 0 (MQ below (va_Qi (fun r u => (r = o.1 ∧ u = o.2) ∧ (o.1 = 0 ∨ o.1 = 1)) (gw_B (kD K) vwCl (tyX K) (wX K) A) A) args s rXX7_headsHold_10.cells rXX7_headsHold_10.slots A) (F0 m 40 ls []) := by
  have hx := F.1
  have hb := F.2.1
  have hml := F.2.2.2.1
  have hown := F.2.2.2.2.1
  have hts := F.2.2.2.2.2.1
  have hG : ∀ x ∈ gT, x.before args s = true := fun x h => hts x (List.mem_cons_of_mem _ h)
  unfold fXX7_headsHold_10_40 at hf
  refine lv_iload_n hx hb dX7_headsHold_40 rfl (lv_at hl 1 rfl) ?_
  refine lv_aload_n hx hb dX7_headsHold_41 rfl (lv_at hl 0 rfl) ?_
  refine gw_get (v := .ref (ka K 3)) F inc_X7 hW 10 7 1 (aX_10 K σ) rfl (by decide) (hG _ q_1_171) (fun _ h9 => h9) rfl dX7_headsHold_42 ?_
  obtain ⟨o13, h14, hf⟩ := gw_bind hf
  refine gw_Vi (As := []) (mc' := 0) (ms' := 0) F hW (mXX2_groups_3 h14) (cwV 0 hts (gT_V q_2_73 q_2_74 q_2_75 q_1_4 q_2_76) rfl rfl rfl hdX2_groups ⟨Nat.le_of_ble_eq_true rfl, Nat.le_of_ble_eq_true rfl⟩) 3 2 (aX_3 K σ) rfl rfl hl.1 rfl (Nat.le_of_ble_eq_true rfl) dX7_headsHold_45 ⟨Nat.le_of_ble_eq_true rfl, Nat.le_of_ble_eq_true rfl⟩ rfl rfl (fun H locs hW => ?_)
  refine lv_icmp_ge (tgt := 119) hx hb dX7_headsHold_48 (by decide) (fun c16 => ?_) (fun c16 => ?_)
  · replace hf := (if_pos c16).symm.trans hf
    refine lv_iconst (v := (1 : Int32)) hx hb dX7_headsHold_119 (by decide) ?_
    exact gw_retz F hW hf (Or.inr rfl) dX7_headsHold_120
  · replace hf := (if_neg c16).symm.trans hf
    refine lv_aload_n hx hb dX7_headsHold_51 rfl (lv_at hl 0 rfl) ?_
    refine gw_get (v := .ref (ka K 11)) F inc_X7 hW 10 7 7 (aX_10 K o13.2) rfl (by decide) (hG _ q_1_177) (fun _ h9 => h9) rfl dX7_headsHold_52 ?_
    refine lv_bipush (v := (90 : Int32)) hx hb dX7_headsHold_55 (by decide) ?_
    refine lv_iload_n hx hb dX7_headsHold_57 rfl (lv_at hl 1 rfl) ?_
    obtain ⟨o17, h18, hf⟩ := gw_bind hf
    refine gw_Vv (As := [.int (90 : Int32), .int x1]) (mc' := 0) (ms' := 0) F hW (mXX1_put2_11 h18) (cwV 2 hts (gT_V q_4_178 q_4_160 q_4_161 q_1_3 q_4_162) rfl rfl rfl hdX1_put2 ⟨Nat.le_of_ble_eq_true rfl, Nat.le_of_ble_eq_true rfl⟩) 11 1 (aX_11 K o13.2) rfl rfl hl.1 rfl (Nat.le_of_ble_eq_true rfl) dX7_headsHold_58 ⟨Nat.le_of_ble_eq_true rfl, Nat.le_of_ble_eq_true rfl⟩ rfl rfl (fun H locs hW => ?_)
    refine lv_aload_n hx hb dX7_headsHold_61 rfl (lv_at hl 0 rfl) ?_
    refine gw_get (v := .ref (ka K 3)) F inc_X7 hW 10 7 1 (aX_10 K o17) rfl (by decide) (hG _ q_1_171) (fun _ h9 => h9) rfl dX7_headsHold_62 ?_
    refine lv_iload_n hx hb dX7_headsHold_65 rfl (lv_at hl 1 rfl) ?_
    refine lv_iconst (v := (0 : Int32)) hx hb dX7_headsHold_66 (by decide) ?_
    obtain ⟨o20, h21, hf⟩ := gw_bind hf
    refine gw_Vi (As := [.int x1, .int (0 : Int32)]) (mc' := 0) (ms' := 0) F hW (mXX2_partAt_3 h21) (cwV 2 hts (gT_V q_4_179 q_2_52 q_2_53 q_1_4 q_2_54) rfl rfl rfl hdX2_partAt ⟨Nat.le_of_ble_eq_true rfl, Nat.le_of_ble_eq_true rfl⟩) 3 2 (aX_3 K o17) rfl rfl hl.1 rfl (Nat.le_of_ble_eq_true rfl) dX7_headsHold_67 ⟨Nat.le_of_ble_eq_true rfl, Nat.le_of_ble_eq_true rfl⟩ rfl rfl (fun H locs hW => ?_)
    refine lv_istore_n (lv' := [(2, .int o20.1), (0, .ref (ka K 10)), (1, .int x1)]) hx hb dX7_headsHold_70 rfl hl (by decide) rfl (fun ls hl => ?_)
    refine lv_iconst (v := (0 : Int32)) hx hb dX7_headsHold_71 (by decide) ?_
    refine lv_istore_n (lv' := [(3, .int (0 : Int32)), (2, .int o20.1), (0, .ref (ka K 10)), (1, .int x1)]) hx hb dX7_headsHold_72 rfl hl (by decide) rfl (fun ls hl => ?_)
    exact lfix_ind (P := PXX7_headsHold_10_73 p l e s m args below meth c A K) (fun k73 hk73 t o hf => wXX7_headsHold_10_73 F hk40 hk73 t.1 t.2.1 t.2.2.1 t.2.2.2 o hf) FU _ _ hf _ _ _ (lv_sub hl [2, 3, 1, 0] rfl) hW
set_option maxHeartbeats 4000000 in
set_option maxRecDepth 100000 in
theorem wXX7_headsHold_10_0 {p : Program} {l : Launch} {e : Env} {s : State} {m : MethodId} {args : Array Value} {below : List Frame} {meth : Method} {c : Code} {A : Nat → Prop} {K : KX} (F : fx_ p s m args meth c cX7_headsHold 4 (some .boolean) RX7 wsX7_headsHold) (σ : XS) (o : (Int32 × XS)) (hf : fXX7_headsHold_10_0 (kn K) σ = some o) (H : Heap) (locs : List Loc) (ls : Array Slot) (hl : lv_has ls 4 [(0, .ref (ka K 10))]) (hW : gw_ (kD K) vwCl (tyX K) (wX K) A s σ H locs) : W p l e rXX7_headsHold_10 s m args below meth c H locs 0 0 (MQ below (va_Qi (fun r u => (r = o.1 ∧ u = o.2) ∧ (o.1 = 0 ∨ o.1 = 1)) (gw_B (kD K) vwCl (tyX K) (wX K) A) A) args s rXX7_headsHold_10.cells rXX7_headsHold_10.slots A) (F0 m 0 ls []) := by
  have hx := F.1
  have hb := F.2.1
  have hml := F.2.2.2.1
  have hown := F.2.2.2.2.1
  have hts := F.2.2.2.2.2.1
  have hG : ∀ x ∈ gT, x.before args s = true := fun x h => hts x (List.mem_cons_of_mem _ h)
  unfold fXX7_headsHold_10_0 at hf
  refine lv_aload_n hx hb dX7_headsHold_0 rfl (lv_at hl 0 rfl) ?_
  refine gw_get (v := .ref (ka K 11)) F inc_X7 hW 10 7 7 (aX_10 K σ) rfl (by decide) (hG _ q_1_177) (fun _ h9 => h9) rfl dX7_headsHold_1 ?_
  refine lv_iconst (v := (0 : Int32)) hx hb dX7_headsHold_4 (by decide) ?_
  refine lv_aload_n hx hb dX7_headsHold_5 rfl (lv_at hl 0 rfl) ?_
  refine gw_get (v := .ref (ka K 11)) F inc_X7 hW 10 7 7 (aX_10 K σ) rfl (by decide) (hG _ q_1_177) (fun _ h9 => h9) rfl dX7_headsHold_6 ?_
  obtain ⟨o1, h2, hf⟩ := gw_bind hf
  refine gw_Vi (As := []) (mc' := 0) (ms' := 0) F hW (mXX1_length_11 h2) (cwV 0 hts (gT_V q_2_118 q_2_44 q_2_45 q_1_3 q_2_46) rfl rfl rfl hdX1_length ⟨Nat.le_of_ble_eq_true rfl, Nat.le_of_ble_eq_true rfl⟩) 11 1 (aX_11 K σ) rfl rfl hl.1 rfl (Nat.le_of_ble_eq_true rfl) dX7_headsHold_9 ⟨Nat.le_of_ble_eq_true rfl, Nat.le_of_ble_eq_true rfl⟩ rfl rfl (fun H locs hW => ?_)
  refine lv_iconst (v := (0 : Int32)) hx hb dX7_headsHold_12 (by decide) ?_
  obtain ⟨o4, h5, hf⟩ := gw_bind hf
  refine gw_Vv (As := [.int (0 : Int32), .int o1.1, .int (0 : Int32)]) (mc' := 0) (ms' := 0) F hW (mXX1_fill_11 h5) (cwV 3 hts (gT_V q_3_41 q_3_42 q_3_43 q_1_3 q_3_44) rfl rfl rfl hdX1_fill ⟨Nat.le_of_ble_eq_true rfl, Nat.le_of_ble_eq_true rfl⟩) 11 1 (aX_11 K o1.2) rfl rfl hl.1 rfl (Nat.le_of_ble_eq_true rfl) dX7_headsHold_13 ⟨Nat.le_of_ble_eq_true rfl, Nat.le_of_ble_eq_true rfl⟩ rfl rfl (fun H locs hW => ?_)
  refine lv_aload_n hx hb dX7_headsHold_16 rfl (lv_at hl 0 rfl) ?_
  refine gw_get (v := .ref (ka K 9)) F inc_X7 hW 10 7 6 (aX_10 K o4) rfl (by decide) (hG _ q_1_176) (fun _ h9 => h9) rfl dX7_headsHold_17 ?_
  refine lv_aload_n hx hb dX7_headsHold_20 rfl (lv_at hl 0 rfl) ?_
  refine gw_get (v := .ref (ka K 11)) F inc_X7 hW 10 7 7 (aX_10 K o4) rfl (by decide) (hG _ q_1_177) (fun _ h9 => h9) rfl dX7_headsHold_21 ?_
  refine lv_iconst (v := (0 : Int32)) hx hb dX7_headsHold_24 (by decide) ?_
  refine lv_aload_n hx hb dX7_headsHold_25 rfl (lv_at hl 0 rfl) ?_
  refine gw_get (v := .ref (ka K 1)) F inc_X7 hW 10 7 0 (aX_10 K o4) rfl (by decide) (hG _ q_1_170) (fun _ h9 => h9) rfl dX7_headsHold_26 ?_
  refine lv_sipush (v := (1128 : Int32)) hx hb dX7_headsHold_29 (by decide) ?_
  obtain ⟨o7, h8, hf⟩ := gw_bind hf
  refine gw_Vi (As := [.int (1128 : Int32)]) (mc' := 0) (ms' := 0) F hW (mXX1_get4_1 h8) (cwV 1 hts (gT_V q_2_113 q_2_114 q_2_115 q_1_3 q_2_116) rfl rfl rfl hdX1_get4 ⟨Nat.le_of_ble_eq_true rfl, Nat.le_of_ble_eq_true rfl⟩) 1 1 (aX_1 K o4) rfl rfl hl.1 rfl (Nat.le_of_ble_eq_true rfl) dX7_headsHold_32 ⟨Nat.le_of_ble_eq_true rfl, Nat.le_of_ble_eq_true rfl⟩ rfl rfl (fun H locs hW => ?_)
  obtain ⟨o10, h11, hf⟩ := gw_bind hf
  refine gw_Vv (As := [.ref (ka K 11), .int (0 : Int32), .int o7.1]) (mc' := 0) (ms' := 0) F hW (mXX6_sketch_9_11 h11) (cwV 3 hts (gT_V q_4_135 q_4_136 q_4_137 q_1_8 q_4_138) rfl rfl rfl hdX6_sketch ⟨Nat.le_of_ble_eq_true rfl, Nat.le_of_ble_eq_true rfl⟩) 9 6 (aX_9 K o7.2) rfl rfl hl.1 rfl (Nat.le_of_ble_eq_true rfl) dX7_headsHold_35 ⟨Nat.le_of_ble_eq_true rfl, Nat.le_of_ble_eq_true rfl⟩ rfl rfl (fun H locs hW => ?_)
  refine lv_iconst (v := (0 : Int32)) hx hb dX7_headsHold_38 (by decide) ?_
  refine lv_istore_n (lv' := [(1, .int (0 : Int32)), (0, .ref (ka K 10))]) hx hb dX7_headsHold_39 rfl hl (by decide) rfl (fun ls hl => ?_)
  exact lfix_ind (P := PXX7_headsHold_10_40 p l e s m args below meth c A K) (fun k40 hk40 t o hf => wXX7_headsHold_10_40 F hk40 t.1 t.2 o hf) FU _ _ hf _ _ _ (lv_sub hl [1, 0] rfl) hW
set_option maxHeartbeats 4000000 in
set_option maxRecDepth 100000 in
theorem mXX7_headsHold_10 {l : Launch} {K : KX} {σ : XS} {o : (Int32 × XS)} (hf : fXX7_headsHold_10 (kn K) σ = some o) : gw_Mz l (kD K) vwCl (tyX K) (wX K) yX7_headsHold wsX7_headsHold rXX7_headsHold_10 [.ref (ka K 10)] σ o := by
  intro sz
  refine gw_body (cc := cX7_headsHold) (maxL := 4) (yret := some .boolean) (by decide +kernel) rfl ?_ (Nat.le_of_ble_eq_true rfl)
  intro p e s m below meth c F hsz hW ls hl
  exact wXX7_headsHold_10_0 F σ o hf s.heap [] ls hl hW
abbrev rXX7_allHolds_10 : Room := { frames := 5, cells := 0, slots := 0, locals := 120 }
set_option maxHeartbeats 4000000 in
set_option maxRecDepth 100000 in
theorem wXX7_allHolds_10_0 {p : Program} {l : Launch} {e : Env} {s : State} {m : MethodId} {args : Array Value} {below : List Frame} {meth : Method} {c : Code} {A : Nat → Prop} {K : KX} (F : fx_ p s m args meth c cX7_allHolds 2 (some .boolean) RX7 wsX7_allHolds) (x1 : Int32) (σ : XS) (o : (Int32 × XS)) (hf : fXX7_allHolds_10_0 (kn K) x1 σ = some o) (H : Heap) (locs : List Loc) (ls : Array Slot) (hl : lv_has ls 2 [(0, .ref (ka K 10)), (1, .int x1)]) (hW : gw_ (kD K) vwCl (tyX K) (wX K) A s σ H locs) : W p l e rXX7_allHolds_10 s m args below meth c H locs 0 0 (MQ below (va_Qi (fun r u => (r = o.1 ∧ u = o.2) ∧ (o.1 = 0 ∨ o.1 = 1)) (gw_B (kD K) vwCl (tyX K) (wX K) A) A) args s rXX7_allHolds_10.cells rXX7_allHolds_10.slots A) (F0 m 0 ls []) := by
  have hx := F.1
  have hb := F.2.1
  have hml := F.2.2.2.1
  have hown := F.2.2.2.2.1
  have hts := F.2.2.2.2.2.1
  have hG : ∀ x ∈ gT, x.before args s = true := fun x h => hts x (List.mem_cons_of_mem _ h)
  unfold fXX7_allHolds_10_0 at hf
  refine lv_aload_n hx hb dX7_allHolds_0 rfl (lv_at hl 0 rfl) ?_
  obtain ⟨o1, h2, hf⟩ := gw_bind hf
  refine gw_Vv (As := []) (mc' := 0) (ms' := 0) F hW (mXX7_claimFixed_10 h2) (cwV 0 hts (gT_V q_2_68 q_2_70 qp_0 q_1_9 q_2_71) rfl rfl rfl hdX7_claimFixed ⟨Nat.le_of_ble_eq_true rfl, Nat.le_of_ble_eq_true rfl⟩) 10 7 (aX_10 K σ) rfl rfl hl.1 rfl (Nat.le_of_ble_eq_true rfl) dX7_allHolds_1 ⟨Nat.le_of_ble_eq_true rfl, Nat.le_of_ble_eq_true rfl⟩ rfl rfl (fun H locs hW => ?_)
  refine lv_aload_n hx hb dX7_allHolds_4 rfl (lv_at hl 0 rfl) ?_
  refine gw_get (v := .ref (ka K 14)) F inc_X7 hW 10 7 9 (aX_10 K o1) rfl (by decide) (hG _ q_1_179) (fun _ h9 => h9) rfl dX7_allHolds_5 ?_
  refine lv_iconst (v := (0 : Int32)) hx hb dX7_allHolds_8 (by decide) ?_
  obtain ⟨o4, h5, hf⟩ := gw_bind hf
  refine gw_Sv (As := [.ref (ka K 14), .int (0 : Int32)]) (mc' := 0) (ms' := 0) F hW (mXJ2_fill__14 h5) (va_cwS 2 hts (gT_S q_2_89 q_2_90 q_1_14 q_2_91) rfl rfl rfl hdJ2_fill_.2 ⟨Nat.le_of_ble_eq_true rfl, Nat.le_of_ble_eq_true rfl⟩) rfl hl.1 rfl (Nat.le_of_ble_eq_true rfl) dX7_allHolds_9 ⟨Nat.le_of_ble_eq_true rfl, Nat.le_of_ble_eq_true rfl⟩ rfl rfl (fun H locs hW => ?_)
  refine lv_aload_n hx hb dX7_allHolds_12 rfl (lv_at hl 0 rfl) ?_
  refine gw_get (v := .ref (ka K 15)) F inc_X7 hW 10 7 10 (aX_10 K o4) rfl (by decide) (hG _ q_1_180) (fun _ h9 => h9) rfl dX7_allHolds_13 ?_
  refine lv_iconst (v := (0 : Int32)) hx hb dX7_allHolds_16 (by decide) ?_
  obtain ⟨o7, h8, hf⟩ := gw_bind hf
  refine gw_Sv (As := [.ref (ka K 15), .int (0 : Int32)]) (mc' := 0) (ms' := 0) F hW (mXJ2_fill__15 h8) (va_cwS 2 hts (gT_S q_2_89 q_2_90 q_1_14 q_2_91) rfl rfl rfl hdJ2_fill_.2 ⟨Nat.le_of_ble_eq_true rfl, Nat.le_of_ble_eq_true rfl⟩) rfl hl.1 rfl (Nat.le_of_ble_eq_true rfl) dX7_allHolds_17 ⟨Nat.le_of_ble_eq_true rfl, Nat.le_of_ble_eq_true rfl⟩ rfl rfl (fun H locs hW => ?_)
  refine lv_aload_n hx hb dX7_allHolds_20 rfl (lv_at hl 0 rfl) ?_
  obtain ⟨o10, h11, hf⟩ := gw_bind hf
  refine gw_Vz (As := []) (mc' := 0) (ms' := 0) F hW (mXX7_inodesHold_10 h11) (cwV 0 hts (gT_V q_2_92 q_2_94 qp_2 q_1_9 q_2_95) rfl rfl rfl hdX7_inodesHold ⟨Nat.le_of_ble_eq_true rfl, Nat.le_of_ble_eq_true rfl⟩) 10 7 (aX_10 K o7) rfl rfl hl.1 rfl (Nat.le_of_ble_eq_true rfl) dX7_allHolds_21 ⟨Nat.le_of_ble_eq_true rfl, Nat.le_of_ble_eq_true rfl⟩ rfl rfl (fun H locs z12 hW => ?_)
  refine lv_if_eq (tgt := 70) hx hb dX7_allHolds_24 (by decide) (fun c13 => ?_) (fun c13 => ?_)
  · replace hf := (if_pos c13).symm.trans hf
    refine lv_iconst (v := (0 : Int32)) hx hb dX7_allHolds_70 (by decide) ?_
    exact gw_retz F hW hf (Or.inl rfl) dX7_allHolds_71
  · replace hf := (if_neg c13).symm.trans hf
    refine lv_aload_n hx hb dX7_allHolds_27 rfl (lv_at hl 0 rfl) ?_
    obtain ⟨o14, h15, hf⟩ := gw_bind hf
    refine gw_Vz (As := []) (mc' := 0) (ms' := 0) F hW (mXX7_directoriesHold_10 h15) (cwV 0 hts (gT_V q_2_139 q_2_141 qp_6 q_1_9 q_2_142) rfl rfl rfl hdX7_directoriesHold ⟨Nat.le_of_ble_eq_true rfl, Nat.le_of_ble_eq_true rfl⟩) 10 7 (aX_10 K o10.2) rfl rfl hl.1 rfl (Nat.le_of_ble_eq_true rfl) dX7_allHolds_28 ⟨Nat.le_of_ble_eq_true rfl, Nat.le_of_ble_eq_true rfl⟩ rfl rfl (fun H locs z16 hW => ?_)
    refine lv_if_eq (tgt := 70) hx hb dX7_allHolds_31 (by decide) (fun c17 => ?_) (fun c17 => ?_)
    · replace hf := (if_pos c17).symm.trans hf
      refine lv_iconst (v := (0 : Int32)) hx hb dX7_allHolds_70 (by decide) ?_
      exact gw_retz F hW hf (Or.inl rfl) dX7_allHolds_71
    · replace hf := (if_neg c17).symm.trans hf
      refine lv_aload_n hx hb dX7_allHolds_34 rfl (lv_at hl 0 rfl) ?_
      obtain ⟨o18, h19, hf⟩ := gw_bind hf
      refine gw_Vz (As := []) (mc' := 0) (ms' := 0) F hW (mXX7_treeHolds_10 h19) (cwV 0 hts (gT_V q_2_239 q_3_1 qp_14 q_1_9 q_3_2) rfl rfl rfl hdX7_treeHolds ⟨Nat.le_of_ble_eq_true rfl, Nat.le_of_ble_eq_true rfl⟩) 10 7 (aX_10 K o14.2) rfl rfl hl.1 rfl (Nat.le_of_ble_eq_true rfl) dX7_allHolds_35 ⟨Nat.le_of_ble_eq_true rfl, Nat.le_of_ble_eq_true rfl⟩ rfl rfl (fun H locs z20 hW => ?_)
      refine lv_if_eq (tgt := 70) hx hb dX7_allHolds_38 (by decide) (fun c21 => ?_) (fun c21 => ?_)
      · replace hf := (if_pos c21).symm.trans hf
        refine lv_iconst (v := (0 : Int32)) hx hb dX7_allHolds_70 (by decide) ?_
        exact gw_retz F hW hf (Or.inl rfl) dX7_allHolds_71
      · replace hf := (if_neg c21).symm.trans hf
        refine lv_aload_n hx hb dX7_allHolds_41 rfl (lv_at hl 0 rfl) ?_
        obtain ⟨o22, h23, hf⟩ := gw_bind hf
        refine gw_Vz (As := []) (mc' := 0) (ms' := 0) F hW (mXX7_mapsHold_10 h23) (cwV 0 hts (gT_V q_3_15 q_3_17 qp_18 q_1_9 q_3_18) rfl rfl rfl hdX7_mapsHold ⟨Nat.le_of_ble_eq_true rfl, Nat.le_of_ble_eq_true rfl⟩) 10 7 (aX_10 K o18.2) rfl rfl hl.1 rfl (Nat.le_of_ble_eq_true rfl) dX7_allHolds_42 ⟨Nat.le_of_ble_eq_true rfl, Nat.le_of_ble_eq_true rfl⟩ rfl rfl (fun H locs z24 hW => ?_)
        refine lv_if_eq (tgt := 70) hx hb dX7_allHolds_45 (by decide) (fun c25 => ?_) (fun c25 => ?_)
        · replace hf := (if_pos c25).symm.trans hf
          refine lv_iconst (v := (0 : Int32)) hx hb dX7_allHolds_70 (by decide) ?_
          exact gw_retz F hW hf (Or.inl rfl) dX7_allHolds_71
        · replace hf := (if_neg c25).symm.trans hf
          refine lv_aload_n hx hb dX7_allHolds_48 rfl (lv_at hl 0 rfl) ?_
          obtain ⟨o26, h27, hf⟩ := gw_bind hf
          refine gw_Vz (As := []) (mc' := 0) (ms' := 0) F hW (mXX7_headsHold_10 h27) (cwV 0 hts (gT_V q_3_37 q_3_39 qp_20 q_1_9 q_3_40) rfl rfl rfl hdX7_headsHold ⟨Nat.le_of_ble_eq_true rfl, Nat.le_of_ble_eq_true rfl⟩) 10 7 (aX_10 K o22.2) rfl rfl hl.1 rfl (Nat.le_of_ble_eq_true rfl) dX7_allHolds_49 ⟨Nat.le_of_ble_eq_true rfl, Nat.le_of_ble_eq_true rfl⟩ rfl rfl (fun H locs z28 hW => ?_)
          refine lv_if_eq (tgt := 70) hx hb dX7_allHolds_52 (by decide) (fun c29 => ?_) (fun c29 => ?_)
          · replace hf := (if_pos c29).symm.trans hf
            refine lv_iconst (v := (0 : Int32)) hx hb dX7_allHolds_70 (by decide) ?_
            exact gw_retz F hW hf (Or.inl rfl) dX7_allHolds_71
          · replace hf := (if_neg c29).symm.trans hf
            refine lv_aload_n hx hb dX7_allHolds_55 rfl (lv_at hl 0 rfl) ?_
            refine gw_get (v := .ref (ka K 6)) F inc_X7 hW 10 7 4 (aX_10 K o26.2) rfl (by decide) (hG _ q_1_174) (fun _ h9 => h9) rfl dX7_allHolds_56 ?_
            refine lv_iload_n hx hb dX7_allHolds_59 rfl (lv_at hl 1 rfl) ?_
            obtain ⟨o30, h31, hf⟩ := gw_bind hf
            refine gw_Vz (As := [.int x1]) (mc' := 0) (ms' := 0) F hW (mXX4_isDirectory_6 h31) (cwV 1 hts (gT_V q_2_143 q_2_144 q_2_145 q_1_6 q_2_146) rfl rfl rfl hdX4_isDirectory ⟨Nat.le_of_ble_eq_true rfl, Nat.le_of_ble_eq_true rfl⟩) 6 4 (aX_6 K o26.2) rfl rfl hl.1 rfl (Nat.le_of_ble_eq_true rfl) dX7_allHolds_60 ⟨Nat.le_of_ble_eq_true rfl, Nat.le_of_ble_eq_true rfl⟩ rfl rfl (fun H locs z32 hW => ?_)
            refine lv_if_eq (tgt := 70) hx hb dX7_allHolds_63 (by decide) (fun c33 => ?_) (fun c33 => ?_)
            · replace hf := (if_pos c33).symm.trans hf
              refine lv_iconst (v := (0 : Int32)) hx hb dX7_allHolds_70 (by decide) ?_
              exact gw_retz F hW hf (Or.inl rfl) dX7_allHolds_71
            · replace hf := (if_neg c33).symm.trans hf
              refine lv_iconst (v := (1 : Int32)) hx hb dX7_allHolds_66 (by decide) ?_
              refine lv_goto (tgt := 71) hx hb dX7_allHolds_67 (by decide) ?_
              exact gw_retz F hW hf (Or.inr rfl) dX7_allHolds_71
set_option maxHeartbeats 4000000 in
set_option maxRecDepth 100000 in
theorem mXX7_allHolds_10 {l : Launch} {K : KX} {σ : XS} {x1 : Int32} {o : (Int32 × XS)} (hf : fXX7_allHolds_10 (kn K) x1 σ = some o) : gw_Mz l (kD K) vwCl (tyX K) (wX K) yX7_allHolds wsX7_allHolds rXX7_allHolds_10 [.ref (ka K 10), .int x1] σ o := by
  intro sz
  refine gw_body (cc := cX7_allHolds) (maxL := 2) (yret := some .boolean) (by decide +kernel) rfl ?_ (Nat.le_of_ble_eq_true rfl)
  intro p e s m below meth c F hsz hW ls hl
  exact wXX7_allHolds_10_0 F x1 σ o hf s.heap [] ls hl hW
abbrev rXX0_fault_0 : Room := { frames := 6, cells := 0, slots := 0, locals := 141 }
set_option maxHeartbeats 4000000 in
set_option maxRecDepth 100000 in
theorem wXX0_fault_0_0 {p : Program} {l : Launch} {e : Env} {s : State} {m : MethodId} {args : Array Value} {below : List Frame} {meth : Method} {c : Code} {A : Nat → Prop} {K : KX} (F : fx_ p s m args meth c cX0_fault 1 (some .int) RX0 wsX0_fault) (σ : XS) (o : (Int32 × XS)) (hf : fXX0_fault_0_0 (kn K) σ = some o) (H : Heap) (locs : List Loc) (ls : Array Slot) (hl : lv_has ls 1 [(0, .ref (ka K 0))]) (hW : gw_ (kD K) vwCl (tyX K) (wX K) A s σ H locs) : W p l e rXX0_fault_0 s m args below meth c H locs 0 0 (MQ below (gw_Qi (kD K) vwCl (tyX K) (wX K) A o) args s rXX0_fault_0.cells rXX0_fault_0.slots A) (F0 m 0 ls []) := by
  have hx := F.1
  have hb := F.2.1
  have hml := F.2.2.2.1
  have hown := F.2.2.2.2.1
  have hts := F.2.2.2.2.2.1
  have hG : ∀ x ∈ gT, x.before args s = true := fun x h => hts x (List.mem_cons_of_mem _ h)
  unfold fXX0_fault_0_0 at hf
  refine lv_aload_n hx hb dX0_fault_0 rfl (lv_at hl 0 rfl) ?_
  refine gw_get (v := .int (σ.1 0)) F inc_X0 hW 0 0 9 (aX_0 K σ) rfl (by decide) (hG _ q_1_232) (fun _ h9 => h9) rfl dX0_fault_1 ?_
  refine lv_if_ne (tgt := 9) hx hb dX0_fault_4 (by decide) (fun c1 => ?_) (fun c1 => ?_)
  · replace hf := (if_neg c1).symm.trans hf
    refine lv_aload_n hx hb dX0_fault_9 rfl (lv_at hl 0 rfl) ?_
    refine gw_get (v := .ref (ka K 10)) F inc_X0 hW 0 0 7 (aX_0 K σ) rfl (by decide) (hG _ q_1_230) (fun _ h9 => h9) rfl dX0_fault_10 ?_
    refine lv_aload_n hx hb dX0_fault_13 rfl (lv_at hl 0 rfl) ?_
    refine gw_get (v := .int (σ.1 1)) F inc_X0 hW 0 0 10 (aX_0 K σ) rfl (by decide) (hG _ q_1_233) (fun _ h9 => h9) rfl dX0_fault_14 ?_
    obtain ⟨o2, h3, hf⟩ := gw_bind hf
    refine gw_Vz (As := [.int (σ.1 1)]) (mc' := 0) (ms' := 0) F hW (mXX7_allHolds_10 h3) (cwV 1 hts (gT_V q_2_64 q_2_65 q_2_66 q_1_9 q_2_67) rfl rfl rfl hdX7_allHolds ⟨Nat.le_of_ble_eq_true rfl, Nat.le_of_ble_eq_true rfl⟩) 10 7 (aX_10 K σ) rfl rfl hl.1 rfl (Nat.le_of_ble_eq_true rfl) dX0_fault_17 ⟨Nat.le_of_ble_eq_true rfl, Nat.le_of_ble_eq_true rfl⟩ rfl rfl (fun H locs z4 hW => ?_)
    refine lv_if_eq (tgt := 27) hx hb dX0_fault_20 (by decide) (fun c5 => ?_) (fun c5 => ?_)
    · replace hf := (if_pos c5).symm.trans hf
      refine lv_iconst (v := (1 : Int32)) hx hb dX0_fault_27 (by decide) ?_
      exact gw_reti F hW hf dX0_fault_28
    · replace hf := (if_neg c5).symm.trans hf
      refine lv_iconst (v := (0 : Int32)) hx hb dX0_fault_23 (by decide) ?_
      refine lv_goto (tgt := 28) hx hb dX0_fault_24 (by decide) ?_
      exact gw_reti F hW hf dX0_fault_28
  · replace hf := (if_pos c1).symm.trans hf
    refine lv_iconst (v := (-1 : Int32)) hx hb dX0_fault_7 (by decide) ?_
    exact gw_reti F hW hf dX0_fault_8
set_option maxHeartbeats 4000000 in
set_option maxRecDepth 100000 in
theorem mXX0_fault_0 {l : Launch} {K : KX} {σ : XS} {o : (Int32 × XS)} (hf : fXX0_fault_0 (kn K) σ = some o) : gw_Mi l (kD K) vwCl (tyX K) (wX K) yX0_fault wsX0_fault rXX0_fault_0 [.ref (ka K 0)] σ o := by
  intro sz
  refine gw_body (cc := cX0_fault) (maxL := 1) (yret := some .int) (by decide +kernel) rfl ?_ (Nat.le_of_ble_eq_true rfl)
  intro p e s m below meth c F hsz hW ls hl
  exact wXX0_fault_0_0 F σ o hf s.heap [] ls hl hW
abbrev rXX3_free_5 : Room := { frames := 1, cells := 0, slots := 0, locals := 21 }
set_option maxHeartbeats 4000000 in
set_option maxRecDepth 100000 in
theorem wXX3_free_5_0 {p : Program} {l : Launch} {e : Env} {s : State} {m : MethodId} {args : Array Value} {below : List Frame} {meth : Method} {c : Code} {A : Nat → Prop} {K : KX} (F : fx_ p s m args meth c cX3_free 1 (some .int) RX3 wsX3_free) (σ : XS) (o : (Int32 × XS)) (hf : fXX3_free_5_0 (kn K) σ = some o) (H : Heap) (locs : List Loc) (ls : Array Slot) (hl : lv_has ls 1 [(0, .ref (ka K 5))]) (hW : gw_ (kD K) vwCl (tyX K) (wX K) A s σ H locs) : W p l e rXX3_free_5 s m args below meth c H locs 0 0 (MQ below (gw_Qi (kD K) vwCl (tyX K) (wX K) A o) args s rXX3_free_5.cells rXX3_free_5.slots A) (F0 m 0 ls []) := by
  have hx := F.1
  have hb := F.2.1
  have hml := F.2.2.2.1
  have hown := F.2.2.2.2.1
  have hts := F.2.2.2.2.2.1
  have hG : ∀ x ∈ gT, x.before args s = true := fun x h => hts x (List.mem_cons_of_mem _ h)
  unfold fXX3_free_5_0 at hf
  refine lv_aload_n hx hb dX3_free_0 rfl (lv_at hl 0 rfl) ?_
  refine gw_get (v := .ref (ka K 1)) F inc_X3 hW 5 3 0 (aX_5 K σ) rfl (by decide) (hG _ q_1_83) (fun _ h9 => h9) rfl dX3_free_1 ?_
  refine lv_sipush (v := (1024 : Int32)) hx hb dX3_free_4 (by decide) ?_
  refine lv_aload_n hx hb dX3_free_7 rfl (lv_at hl 0 rfl) ?_
  refine gw_get (v := .int (16 : Int32)) F inc_X3 hW 5 3 3 (aX_5 K σ) rfl (by decide) (hG _ q_1_86) (fun _ h9 => h9) rfl dX3_free_8 ?_
  refine lv_iadd hx hb dX3_free_11 ?_
  obtain ⟨o1, h2, hf⟩ := gw_bind hf
  refine gw_Vi (As := [.int ((1024 : Int32) + (16 : Int32))]) (mc' := 0) (ms' := 0) F hW (mXX1_get4_1 h2) (cwV 1 hts (gT_V q_4_188 q_2_114 q_2_115 q_1_3 q_2_116) rfl rfl rfl hdX1_get4 ⟨Nat.le_of_ble_eq_true rfl, Nat.le_of_ble_eq_true rfl⟩) 1 1 (aX_1 K σ) rfl rfl hl.1 rfl (Nat.le_of_ble_eq_true rfl) dX3_free_12 ⟨Nat.le_of_ble_eq_true rfl, Nat.le_of_ble_eq_true rfl⟩ rfl rfl (fun H locs hW => ?_)
  exact gw_reti F hW hf dX3_free_15
set_option maxHeartbeats 4000000 in
set_option maxRecDepth 100000 in
theorem mXX3_free_5 {l : Launch} {K : KX} {σ : XS} {o : (Int32 × XS)} (hf : fXX3_free_5 (kn K) σ = some o) : gw_Mi l (kD K) vwCl (tyX K) (wX K) yX3_free wsX3_free rXX3_free_5 [.ref (ka K 5)] σ o := by
  intro sz
  refine gw_body (cc := cX3_free) (maxL := 1) (yret := some .int) (by decide +kernel) rfl ?_ (Nat.le_of_ble_eq_true rfl)
  intro p e s m below meth c F hsz hW ls hl
  exact wXX3_free_5_0 F σ o hf s.heap [] ls hl hW
abbrev rXX0_many_0 : Room := { frames := 2, cells := 0, slots := 0, locals := 41 }
set_option maxHeartbeats 4000000 in
set_option maxRecDepth 100000 in
theorem wXX0_many_0_0 {p : Program} {l : Launch} {e : Env} {s : State} {m : MethodId} {args : Array Value} {below : List Frame} {meth : Method} {c : Code} {A : Nat → Prop} {K : KX} (F : fx_ p s m args meth c cX0_many 2 (some .int) RX0 wsX0_many) (x1 : Int32) (σ : XS) (o : (Int32 × XS)) (hf : fXX0_many_0_0 (kn K) x1 σ = some o) (H : Heap) (locs : List Loc) (ls : Array Slot) (hl : lv_has ls 2 [(0, .ref (ka K 0)), (1, .int x1)]) (hW : gw_ (kD K) vwCl (tyX K) (wX K) A s σ H locs) : W p l e rXX0_many_0 s m args below meth c H locs 0 0 (MQ below (gw_Qi (kD K) vwCl (tyX K) (wX K) A o) args s rXX0_many_0.cells rXX0_many_0.slots A) (F0 m 0 ls []) := by
  have hx := F.1
  have hb := F.2.1
  have hml := F.2.2.2.1
  have hown := F.2.2.2.2.1
  have hts := F.2.2.2.2.2.1
  have hG : ∀ x ∈ gT, x.before args s = true := fun x h => hts x (List.mem_cons_of_mem _ h)
  unfold fXX0_many_0_0 at hf
  refine lv_aload_n hx hb dX0_many_0 rfl (lv_at hl 0 rfl) ?_
  refine gw_get (v := .int (σ.1 0)) F inc_X0 hW 0 0 9 (aX_0 K σ) rfl (by decide) (hG _ q_1_232) (fun _ h9 => h9) rfl dX0_many_1 ?_
  refine lv_if_ne (tgt := 9) hx hb dX0_many_4 (by decide) (fun c1 => ?_) (fun c1 => ?_)
  · replace hf := (if_neg c1).symm.trans hf
    refine lv_iload_n hx hb dX0_many_9 rfl (lv_at hl 1 rfl) ?_
    rcases Decidable.em (x1 = (0 : Int32)) with c2 | c2
    · replace hf := (if_pos c2).symm.trans hf
      refine lv_tableIn (tgt := 40) hx hb dX0_many_10 (by rw [c2]; decide) (by rw [c2]; decide) (by rw [c2]; rfl) (by decide) ?_
      refine lv_aload_n hx hb dX0_many_40 rfl (lv_at hl 0 rfl) ?_
      refine gw_get (v := .ref (ka K 4)) F inc_X0 hW 0 0 2 (aX_0 K σ) rfl (by decide) (hG _ q_1_225) (fun _ h9 => h9) rfl dX0_many_41 ?_
      obtain ⟨o3, h4, hf⟩ := gw_bind hf
      refine gw_Vi (As := []) (mc' := 0) (ms' := 0) F hW (mXX3_free_4 h4) (cwV 0 hts (gT_V q_4_184 q_4_185 q_4_186 q_1_5 q_4_187) rfl rfl rfl hdX3_free ⟨Nat.le_of_ble_eq_true rfl, Nat.le_of_ble_eq_true rfl⟩) 4 3 (aX_4 K σ) rfl rfl hl.1 rfl (Nat.le_of_ble_eq_true rfl) dX0_many_44 ⟨Nat.le_of_ble_eq_true rfl, Nat.le_of_ble_eq_true rfl⟩ rfl rfl (fun H locs hW => ?_)
      exact gw_reti F hW hf dX0_many_47
    replace hf := (if_neg c2).symm.trans hf
    rcases Decidable.em (x1 = (1 : Int32)) with c6 | c6
    · replace hf := (if_pos c6).symm.trans hf
      refine lv_tableIn (tgt := 48) hx hb dX0_many_10 (by rw [c6]; decide) (by rw [c6]; decide) (by rw [c6]; rfl) (by decide) ?_
      refine lv_aload_n hx hb dX0_many_48 rfl (lv_at hl 0 rfl) ?_
      refine gw_get (v := .ref (ka K 5)) F inc_X0 hW 0 0 3 (aX_0 K σ) rfl (by decide) (hG _ q_1_226) (fun _ h9 => h9) rfl dX0_many_49 ?_
      obtain ⟨o7, h8, hf⟩ := gw_bind hf
      refine gw_Vi (As := []) (mc' := 0) (ms' := 0) F hW (mXX3_free_5 h8) (cwV 0 hts (gT_V q_4_184 q_4_185 q_4_186 q_1_5 q_4_187) rfl rfl rfl hdX3_free ⟨Nat.le_of_ble_eq_true rfl, Nat.le_of_ble_eq_true rfl⟩) 5 3 (aX_5 K σ) rfl rfl hl.1 rfl (Nat.le_of_ble_eq_true rfl) dX0_many_52 ⟨Nat.le_of_ble_eq_true rfl, Nat.le_of_ble_eq_true rfl⟩ rfl rfl (fun H locs hW => ?_)
      exact gw_reti F hW hf dX0_many_55
    replace hf := (if_neg c6).symm.trans hf
    rcases Decidable.em (x1 = (2 : Int32)) with c10 | c10
    · replace hf := (if_pos c10).symm.trans hf
      refine lv_tableIn (tgt := 56) hx hb dX0_many_10 (by rw [c10]; decide) (by rw [c10]; decide) (by rw [c10]; rfl) (by decide) ?_
      refine lv_aload_n hx hb dX0_many_56 rfl (lv_at hl 0 rfl) ?_
      refine gw_get (v := .ref (ka K 3)) F inc_X0 hW 0 0 1 (aX_0 K σ) rfl (by decide) (hG _ q_1_224) (fun _ h9 => h9) rfl dX0_many_57 ?_
      obtain ⟨o11, h12, hf⟩ := gw_bind hf
      refine gw_Vi (As := []) (mc' := 0) (ms' := 0) F hW (mXX2_groups_3 h12) (cwV 0 hts (gT_V q_4_189 q_2_74 q_2_75 q_1_4 q_2_76) rfl rfl rfl hdX2_groups ⟨Nat.le_of_ble_eq_true rfl, Nat.le_of_ble_eq_true rfl⟩) 3 2 (aX_3 K σ) rfl rfl hl.1 rfl (Nat.le_of_ble_eq_true rfl) dX0_many_60 ⟨Nat.le_of_ble_eq_true rfl, Nat.le_of_ble_eq_true rfl⟩ rfl rfl (fun H locs hW => ?_)
      exact gw_reti F hW hf dX0_many_63
    replace hf := (if_neg c10).symm.trans hf
    rcases Decidable.em (x1 = (3 : Int32)) with c14 | c14
    · replace hf := (if_pos c14).symm.trans hf
      refine lv_tableIn (tgt := 64) hx hb dX0_many_10 (by rw [c14]; decide) (by rw [c14]; decide) (by rw [c14]; rfl) (by decide) ?_
      refine lv_aload_n hx hb dX0_many_64 rfl (lv_at hl 0 rfl) ?_
      refine gw_get (v := .ref (ka K 3)) F inc_X0 hW 0 0 1 (aX_0 K σ) rfl (by decide) (hG _ q_1_224) (fun _ h9 => h9) rfl dX0_many_65 ?_
      obtain ⟨o15, h16, hf⟩ := gw_bind hf
      refine gw_Vi (As := []) (mc' := 0) (ms' := 0) F hW (mXX2_groupInodes_3 h16) (cwV 0 hts (gT_V q_4_190 q_3_34 q_3_35 q_1_4 q_3_36) rfl rfl rfl hdX2_groupInodes ⟨Nat.le_of_ble_eq_true rfl, Nat.le_of_ble_eq_true rfl⟩) 3 2 (aX_3 K σ) rfl rfl hl.1 rfl (Nat.le_of_ble_eq_true rfl) dX0_many_68 ⟨Nat.le_of_ble_eq_true rfl, Nat.le_of_ble_eq_true rfl⟩ rfl rfl (fun H locs hW => ?_)
      exact gw_reti F hW hf dX0_many_71
    replace hf := (if_neg c14).symm.trans hf
    refine lv_tableOut (tgt := 72) hx hb dX0_many_10 (gw_out0_3 c2 c6 c10 c14) (by decide) ?_
    refine lv_iconst (v := (-1 : Int32)) hx hb dX0_many_72 (by decide) ?_
    exact gw_reti F hW hf dX0_many_73
  · replace hf := (if_pos c1).symm.trans hf
    refine lv_iconst (v := (-1 : Int32)) hx hb dX0_many_7 (by decide) ?_
    exact gw_reti F hW hf dX0_many_8
set_option maxHeartbeats 4000000 in
set_option maxRecDepth 100000 in
theorem mXX0_many_0 {l : Launch} {K : KX} {σ : XS} {x1 : Int32} {o : (Int32 × XS)} (hf : fXX0_many_0 (kn K) x1 σ = some o) : gw_Mi l (kD K) vwCl (tyX K) (wX K) yX0_many wsX0_many rXX0_many_0 [.ref (ka K 0), .int x1] σ o := by
  intro sz
  refine gw_body (cc := cX0_many) (maxL := 2) (yret := some .int) (by decide +kernel) rfl ?_ (Nat.le_of_ble_eq_true rfl)
  intro p e s m below meth c F hsz hW ls hl
  exact wXX0_many_0_0 F x1 σ o hf s.heap [] ls hl hW
abbrev rXX5_itemCount_7 : Room := { frames := 2, cells := 0, slots := 0, locals := 42 }
def PXX5_itemCount_7_4 (p : Program) (l : Launch) (e : Env) (s : State) (m : MethodId) (args : Array Value) (below : List Frame) (meth : Method) (c : Code) (A : Nat → Prop) (K : KX) (t : (Int32 × Int32 × XS)) (o : (Int32 × XS)) : Prop := ∀ (H : Heap) (locs : List Loc) (ls : Array Slot), lv_has ls 3 [(0, .ref (ka K 7)), (1, .int t.1), (2, .int t.2.1)] → gw_ (kD K) vwCl (tyX K) (wX K) A s t.2.2 H locs → W p l e rXX5_itemCount_7 s m args below meth c H locs 0 0 (MQ below (gw_Qi (kD K) vwCl (tyX K) (wX K) A o) args s rXX5_itemCount_7.cells rXX5_itemCount_7.slots A) (F0 m 4 ls [])
set_option maxHeartbeats 4000000 in
set_option maxRecDepth 100000 in
theorem wXX5_itemCount_7_23 {p : Program} {l : Launch} {e : Env} {s : State} {m : MethodId} {args : Array Value} {below : List Frame} {meth : Method} {c : Code} {A : Nat → Prop} {K : KX} (F : fx_ p s m args meth c cX5_itemCount 3 (some .int) RX5 wsX5_itemCount) {k4 : (Int32 × Int32 × XS) → Option (Int32 × XS)} (hk4 : ∀ t o, k4 t = some o → PXX5_itemCount_7_4 p l e s m args below meth c A K t o) (x1 : Int32) (x2 : Int32) (σ : XS) (o : (Int32 × XS)) (hf : fXX5_itemCount_7_23 (kn K) k4 x1 x2 σ = some o) (H : Heap) (locs : List Loc) (ls : Array Slot) (hl : lv_has ls 3 [(0, .ref (ka K 7)), (1, .int x1), (2, .int x2)]) (hW : gw_ (kD K) vwCl (tyX K) (wX K) A s σ H locs) : W p l e rXX5_itemCount_7 s m args below meth c H locs 0 0 (MQ below (gw_Qi (kD K) vwCl (tyX K) (wX K) A o) args s rXX5_itemCount_7.cells rXX5_itemCount_7.slots A) (F0 m 23 ls []) := by
  have hx := F.1
  have hb := F.2.1
  have hml := F.2.2.2.1
  have hown := F.2.2.2.2.1
  have hts := F.2.2.2.2.2.1
  have hG : ∀ x ∈ gT, x.before args s = true := fun x h => hts x (List.mem_cons_of_mem _ h)
  unfold fXX5_itemCount_7_23 at hf
  refine lv_iinc (v := (x2 + (1 : Int32))) (lv' := [(2, .int (x2 + (1 : Int32))), (0, .ref (ka K 7)), (1, .int x1)]) hx hb dX5_itemCount_23 hl (k := 2) rfl rfl (by decide) rfl (fun ls hl => ?_)
  refine lv_goto (tgt := 4) hx hb dX5_itemCount_26 (by decide) ?_
  exact hk4 _ _ hf _ _ _ (lv_sub hl [1, 2, 0] rfl) hW
set_option maxHeartbeats 4000000 in
set_option maxRecDepth 100000 in
theorem wXX5_itemCount_7_4 {p : Program} {l : Launch} {e : Env} {s : State} {m : MethodId} {args : Array Value} {below : List Frame} {meth : Method} {c : Code} {A : Nat → Prop} {K : KX} (F : fx_ p s m args meth c cX5_itemCount 3 (some .int) RX5 wsX5_itemCount) {k4 : (Int32 × Int32 × XS) → Option (Int32 × XS)} (hk4 : ∀ t o, k4 t = some o → PXX5_itemCount_7_4 p l e s m args below meth c A K t o) (x1 : Int32) (x2 : Int32) (σ : XS) (o : (Int32 × XS)) (hf : fXX5_itemCount_7_4 (kn K) k4 x1 x2 σ = some o) (H : Heap) (locs : List Loc) (ls : Array Slot) (hl : lv_has ls 3 [(0, .ref (ka K 7)), (1, .int x1), (2, .int x2)]) (hW : gw_ (kD K) vwCl (tyX K) (wX K) A s σ H locs) : W p l e rXX5_itemCount_7 s m args below meth c H locs 0 0 (MQ below (gw_Qi (kD K) vwCl (tyX K) (wX K) A o) args s rXX5_itemCount_7.cells rXX5_itemCount_7.slots A) (F0 m 4 ls []) := by
  have hx := F.1
  have hb := F.2.1
  have hml := F.2.2.2.1
  have hown := F.2.2.2.2.1
  have hts := F.2.2.2.2.2.1
  have hG : ∀ x ∈ gT, x.before args s = true := fun x h => hts x (List.mem_cons_of_mem _ h)
  unfold fXX5_itemCount_7_4 at hf
  refine lv_iload_n hx hb dX5_itemCount_4 rfl (lv_at hl 2 rfl) ?_
  refine lv_aload_n hx hb dX5_itemCount_5 rfl (lv_at hl 0 rfl) ?_
  refine gw_get (v := .int (σ.1 7)) F inc_X5 hW 7 5 3 (aX_7 K σ) rfl (by decide) (hG _ q_1_127) (fun _ h9 => h9) rfl dX5_itemCount_6 ?_
  refine lv_icmp_ge (tgt := 29) hx hb dX5_itemCount_9 (by decide) (fun c1 => ?_) (fun c1 => ?_)
  · replace hf := (if_pos c1).symm.trans hf
    refine lv_iload_n hx hb dX5_itemCount_29 rfl (lv_at hl 1 rfl) ?_
    exact gw_reti F hW hf dX5_itemCount_30
  · replace hf := (if_neg c1).symm.trans hf
    refine lv_aload_n hx hb dX5_itemCount_12 rfl (lv_at hl 0 rfl) ?_
    refine lv_iload_n hx hb dX5_itemCount_13 rfl (lv_at hl 2 rfl) ?_
    obtain ⟨o2, h3, hf⟩ := gw_bind hf
    refine gw_Vi (As := [.int x2]) (mc' := 0) (ms' := 0) F hW (mXX5_inodeOf_7 h3) (cwV 1 hts (gT_V q_2_218 q_2_193 q_2_194 q_1_7 q_2_195) rfl rfl rfl hdX5_inodeOf ⟨Nat.le_of_ble_eq_true rfl, Nat.le_of_ble_eq_true rfl⟩) 7 5 (aX_7 K σ) rfl rfl hl.1 rfl (Nat.le_of_ble_eq_true rfl) dX5_itemCount_14 ⟨Nat.le_of_ble_eq_true rfl, Nat.le_of_ble_eq_true rfl⟩ rfl rfl (fun H locs hW => ?_)
    refine lv_if_eq (tgt := 23) hx hb dX5_itemCount_17 (by decide) (fun c5 => ?_) (fun c5 => ?_)
    · replace hf := (if_pos c5).symm.trans hf
      exact wXX5_itemCount_7_23 F hk4 x1 x2 _ _ hf _ _ _ (lv_sub hl [0, 1, 2] rfl) hW
    · replace hf := (if_neg c5).symm.trans hf
      refine lv_iinc (v := (x1 + (1 : Int32))) (lv' := [(1, .int (x1 + (1 : Int32))), (0, .ref (ka K 7)), (2, .int x2)]) hx hb dX5_itemCount_20 hl (k := 1) rfl rfl (by decide) rfl (fun ls hl => ?_)
      exact wXX5_itemCount_7_23 F hk4 (x1 + (1 : Int32)) x2 _ _ hf _ _ _ (lv_sub hl [1, 0, 2] rfl) hW
set_option maxHeartbeats 4000000 in
set_option maxRecDepth 100000 in
theorem wXX5_itemCount_7_0 {p : Program} {l : Launch} {e : Env} {s : State} {m : MethodId} {args : Array Value} {below : List Frame} {meth : Method} {c : Code} {A : Nat → Prop} {K : KX} (F : fx_ p s m args meth c cX5_itemCount 3 (some .int) RX5 wsX5_itemCount) (σ : XS) (o : (Int32 × XS)) (hf : fXX5_itemCount_7_0 (kn K) σ = some o) (H : Heap) (locs : List Loc) (ls : Array Slot) (hl : lv_has ls 3 [(0, .ref (ka K 7))]) (hW : gw_ (kD K) vwCl (tyX K) (wX K) A s σ H locs) : W p l e rXX5_itemCount_7 s m args below meth c H locs 0 0 (MQ below (gw_Qi (kD K) vwCl (tyX K) (wX K) A o) args s rXX5_itemCount_7.cells rXX5_itemCount_7.slots A) (F0 m 0 ls []) := by
  have hx := F.1
  have hb := F.2.1
  have hml := F.2.2.2.1
  have hown := F.2.2.2.2.1
  have hts := F.2.2.2.2.2.1
  have hG : ∀ x ∈ gT, x.before args s = true := fun x h => hts x (List.mem_cons_of_mem _ h)
  unfold fXX5_itemCount_7_0 at hf
  refine lv_iconst (v := (0 : Int32)) hx hb dX5_itemCount_0 (by decide) ?_
  refine lv_istore_n (lv' := [(1, .int (0 : Int32)), (0, .ref (ka K 7))]) hx hb dX5_itemCount_1 rfl hl (by decide) rfl (fun ls hl => ?_)
  refine lv_iconst (v := (2 : Int32)) hx hb dX5_itemCount_2 (by decide) ?_
  refine lv_istore_n (lv' := [(2, .int (2 : Int32)), (1, .int (0 : Int32)), (0, .ref (ka K 7))]) hx hb dX5_itemCount_3 rfl hl (by decide) rfl (fun ls hl => ?_)
  exact lfix_ind (P := PXX5_itemCount_7_4 p l e s m args below meth c A K) (fun k4 hk4 t o hf => wXX5_itemCount_7_4 F hk4 t.1 t.2.1 t.2.2 o hf) FU _ _ hf _ _ _ (lv_sub hl [2, 1, 0] rfl) hW
set_option maxHeartbeats 4000000 in
set_option maxRecDepth 100000 in
theorem mXX5_itemCount_7 {l : Launch} {K : KX} {σ : XS} {o : (Int32 × XS)} (hf : fXX5_itemCount_7 (kn K) σ = some o) : gw_Mi l (kD K) vwCl (tyX K) (wX K) yX5_itemCount wsX5_itemCount rXX5_itemCount_7 [.ref (ka K 7)] σ o := by
  intro sz
  refine gw_body (cc := cX5_itemCount) (maxL := 3) (yret := some .int) (by decide +kernel) rfl ?_ (Nat.le_of_ble_eq_true rfl)
  intro p e s m below meth c F hsz hW ls hl
  exact wXX5_itemCount_7_0 F σ o hf s.heap [] ls hl hW
abbrev rXX5_placeOf_7 : Room := { frames := 2, cells := 0, slots := 0, locals := 42 }
def PXX5_placeOf_7_4 (p : Program) (l : Launch) (e : Env) (s : State) (m : MethodId) (args : Array Value) (below : List Frame) (meth : Method) (c : Code) (A : Nat → Prop) (K : KX) (t : (Int32 × Int32 × Int32 × XS)) (o : (Int32 × XS)) : Prop := ∀ (H : Heap) (locs : List Loc) (ls : Array Slot), lv_has ls 4 [(0, .ref (ka K 7)), (1, .int t.1), (2, .int t.2.1), (3, .int t.2.2.1)] → gw_ (kD K) vwCl (tyX K) (wX K) A s t.2.2.2 H locs → W p l e rXX5_placeOf_7 s m args below meth c H locs 0 0 (MQ below (gw_Qi (kD K) vwCl (tyX K) (wX K) A o) args s rXX5_placeOf_7.cells rXX5_placeOf_7.slots A) (F0 m 4 ls [])
set_option maxHeartbeats 4000000 in
set_option maxRecDepth 100000 in
theorem wXX5_placeOf_7_30 {p : Program} {l : Launch} {e : Env} {s : State} {m : MethodId} {args : Array Value} {below : List Frame} {meth : Method} {c : Code} {A : Nat → Prop} {K : KX} (F : fx_ p s m args meth c cX5_placeOf 4 (some .int) RX5 wsX5_placeOf) {k4 : (Int32 × Int32 × Int32 × XS) → Option (Int32 × XS)} (hk4 : ∀ t o, k4 t = some o → PXX5_placeOf_7_4 p l e s m args below meth c A K t o) (x1 : Int32) (x2 : Int32) (x3 : Int32) (σ : XS) (o : (Int32 × XS)) (hf : fXX5_placeOf_7_30 (kn K) k4 x1 x2 x3 σ = some o) (H : Heap) (locs : List Loc) (ls : Array Slot) (hl : lv_has ls 4 [(0, .ref (ka K 7)), (1, .int x1), (2, .int x2), (3, .int x3)]) (hW : gw_ (kD K) vwCl (tyX K) (wX K) A s σ H locs) : W p l e rXX5_placeOf_7 s m args below meth c H locs 0 0 (MQ below (gw_Qi (kD K) vwCl (tyX K) (wX K) A o) args s rXX5_placeOf_7.cells rXX5_placeOf_7.slots A) (F0 m 30 ls []) := by
  have hx := F.1
  have hb := F.2.1
  have hml := F.2.2.2.1
  have hown := F.2.2.2.2.1
  have hts := F.2.2.2.2.2.1
  have hG : ∀ x ∈ gT, x.before args s = true := fun x h => hts x (List.mem_cons_of_mem _ h)
  unfold fXX5_placeOf_7_30 at hf
  refine lv_iinc (v := (x3 + (1 : Int32))) (lv' := [(3, .int (x3 + (1 : Int32))), (0, .ref (ka K 7)), (1, .int x1), (2, .int x2)]) hx hb dX5_placeOf_30 hl (k := 3) rfl rfl (by decide) rfl (fun ls hl => ?_)
  refine lv_goto (tgt := 4) hx hb dX5_placeOf_33 (by decide) ?_
  exact hk4 _ _ hf _ _ _ (lv_sub hl [1, 2, 3, 0] rfl) hW
set_option maxHeartbeats 4000000 in
set_option maxRecDepth 100000 in
theorem wXX5_placeOf_7_4 {p : Program} {l : Launch} {e : Env} {s : State} {m : MethodId} {args : Array Value} {below : List Frame} {meth : Method} {c : Code} {A : Nat → Prop} {K : KX} (F : fx_ p s m args meth c cX5_placeOf 4 (some .int) RX5 wsX5_placeOf) {k4 : (Int32 × Int32 × Int32 × XS) → Option (Int32 × XS)} (hk4 : ∀ t o, k4 t = some o → PXX5_placeOf_7_4 p l e s m args below meth c A K t o) (x1 : Int32) (x2 : Int32) (x3 : Int32) (σ : XS) (o : (Int32 × XS)) (hf : fXX5_placeOf_7_4 (kn K) k4 x1 x2 x3 σ = some o) (H : Heap) (locs : List Loc) (ls : Array Slot) (hl : lv_has ls 4 [(0, .ref (ka K 7)), (1, .int x1), (2, .int x2), (3, .int x3)]) (hW : gw_ (kD K) vwCl (tyX K) (wX K) A s σ H locs) : W p l e rXX5_placeOf_7 s m args below meth c H locs 0 0 (MQ below (gw_Qi (kD K) vwCl (tyX K) (wX K) A o) args s rXX5_placeOf_7.cells rXX5_placeOf_7.slots A) (F0 m 4 ls []) := by
  have hx := F.1
  have hb := F.2.1
  have hml := F.2.2.2.1
  have hown := F.2.2.2.2.1
  have hts := F.2.2.2.2.2.1
  have hG : ∀ x ∈ gT, x.before args s = true := fun x h => hts x (List.mem_cons_of_mem _ h)
  unfold fXX5_placeOf_7_4 at hf
  refine lv_iload_n hx hb dX5_placeOf_4 rfl (lv_at hl 3 rfl) ?_
  refine lv_aload_n hx hb dX5_placeOf_5 rfl (lv_at hl 0 rfl) ?_
  refine gw_get (v := .int (σ.1 7)) F inc_X5 hW 7 5 3 (aX_7 K σ) rfl (by decide) (hG _ q_1_127) (fun _ h9 => h9) rfl dX5_placeOf_6 ?_
  refine lv_icmp_ge (tgt := 36) hx hb dX5_placeOf_9 (by decide) (fun c1 => ?_) (fun c1 => ?_)
  · replace hf := (if_pos c1).symm.trans hf
    refine lv_iconst (v := (-1 : Int32)) hx hb dX5_placeOf_36 (by decide) ?_
    exact gw_reti F hW hf dX5_placeOf_37
  · replace hf := (if_neg c1).symm.trans hf
    refine lv_aload_n hx hb dX5_placeOf_12 rfl (lv_at hl 0 rfl) ?_
    refine lv_iload_n hx hb dX5_placeOf_13 rfl (lv_at hl 3 rfl) ?_
    obtain ⟨o2, h3, hf⟩ := gw_bind hf
    refine gw_Vi (As := [.int x3]) (mc' := 0) (ms' := 0) F hW (mXX5_inodeOf_7 h3) (cwV 1 hts (gT_V q_2_218 q_2_193 q_2_194 q_1_7 q_2_195) rfl rfl rfl hdX5_inodeOf ⟨Nat.le_of_ble_eq_true rfl, Nat.le_of_ble_eq_true rfl⟩) 7 5 (aX_7 K σ) rfl rfl hl.1 rfl (Nat.le_of_ble_eq_true rfl) dX5_placeOf_14 ⟨Nat.le_of_ble_eq_true rfl, Nat.le_of_ble_eq_true rfl⟩ rfl rfl (fun H locs hW => ?_)
    refine lv_if_eq (tgt := 30) hx hb dX5_placeOf_17 (by decide) (fun c5 => ?_) (fun c5 => ?_)
    · replace hf := (if_pos c5).symm.trans hf
      exact wXX5_placeOf_7_30 F hk4 x1 x2 x3 _ _ hf _ _ _ (lv_sub hl [0, 1, 2, 3] rfl) hW
    · replace hf := (if_neg c5).symm.trans hf
      refine lv_iload_n hx hb dX5_placeOf_20 rfl (lv_at hl 2 rfl) ?_
      refine lv_iload_n hx hb dX5_placeOf_21 rfl (lv_at hl 1 rfl) ?_
      refine lv_icmp_ne (tgt := 27) hx hb dX5_placeOf_22 (by decide) (fun c6 => ?_) (fun c6 => ?_)
      · replace hf := (if_neg c6).symm.trans hf
        refine lv_iinc (v := (x2 + (1 : Int32))) (lv' := [(2, .int (x2 + (1 : Int32))), (0, .ref (ka K 7)), (1, .int x1), (3, .int x3)]) hx hb dX5_placeOf_27 hl (k := 2) rfl rfl (by decide) rfl (fun ls hl => ?_)
        exact wXX5_placeOf_7_30 F hk4 x1 (x2 + (1 : Int32)) x3 _ _ hf _ _ _ (lv_sub hl [1, 2, 0, 3] rfl) hW
      · replace hf := (if_pos c6).symm.trans hf
        refine lv_iload_n hx hb dX5_placeOf_25 rfl (lv_at hl 3 rfl) ?_
        exact gw_reti F hW hf dX5_placeOf_26
set_option maxHeartbeats 4000000 in
set_option maxRecDepth 100000 in
theorem wXX5_placeOf_7_0 {p : Program} {l : Launch} {e : Env} {s : State} {m : MethodId} {args : Array Value} {below : List Frame} {meth : Method} {c : Code} {A : Nat → Prop} {K : KX} (F : fx_ p s m args meth c cX5_placeOf 4 (some .int) RX5 wsX5_placeOf) (x1 : Int32) (σ : XS) (o : (Int32 × XS)) (hf : fXX5_placeOf_7_0 (kn K) x1 σ = some o) (H : Heap) (locs : List Loc) (ls : Array Slot) (hl : lv_has ls 4 [(0, .ref (ka K 7)), (1, .int x1)]) (hW : gw_ (kD K) vwCl (tyX K) (wX K) A s σ H locs) : W p l e rXX5_placeOf_7 s m args below meth c H locs 0 0 (MQ below (gw_Qi (kD K) vwCl (tyX K) (wX K) A o) args s rXX5_placeOf_7.cells rXX5_placeOf_7.slots A) (F0 m 0 ls []) := by
  have hx := F.1
  have hb := F.2.1
  have hml := F.2.2.2.1
  have hown := F.2.2.2.2.1
  have hts := F.2.2.2.2.2.1
  have hG : ∀ x ∈ gT, x.before args s = true := fun x h => hts x (List.mem_cons_of_mem _ h)
  unfold fXX5_placeOf_7_0 at hf
  refine lv_iconst (v := (0 : Int32)) hx hb dX5_placeOf_0 (by decide) ?_
  refine lv_istore_n (lv' := [(2, .int (0 : Int32)), (0, .ref (ka K 7)), (1, .int x1)]) hx hb dX5_placeOf_1 rfl hl (by decide) rfl (fun ls hl => ?_)
  refine lv_iconst (v := (2 : Int32)) hx hb dX5_placeOf_2 (by decide) ?_
  refine lv_istore_n (lv' := [(3, .int (2 : Int32)), (2, .int (0 : Int32)), (0, .ref (ka K 7)), (1, .int x1)]) hx hb dX5_placeOf_3 rfl hl (by decide) rfl (fun ls hl => ?_)
  exact lfix_ind (P := PXX5_placeOf_7_4 p l e s m args below meth c A K) (fun k4 hk4 t o hf => wXX5_placeOf_7_4 F hk4 t.1 t.2.1 t.2.2.1 t.2.2.2 o hf) FU _ _ hf _ _ _ (lv_sub hl [2, 3, 1, 0] rfl) hW
set_option maxHeartbeats 4000000 in
set_option maxRecDepth 100000 in
theorem mXX5_placeOf_7 {l : Launch} {K : KX} {σ : XS} {x1 : Int32} {o : (Int32 × XS)} (hf : fXX5_placeOf_7 (kn K) x1 σ = some o) : gw_Mi l (kD K) vwCl (tyX K) (wX K) yX5_placeOf wsX5_placeOf rXX5_placeOf_7 [.ref (ka K 7), .int x1] σ o := by
  intro sz
  refine gw_body (cc := cX5_placeOf) (maxL := 4) (yret := some .int) (by decide +kernel) rfl ?_ (Nat.le_of_ble_eq_true rfl)
  intro p e s m below meth c F hsz hW ls hl
  exact wXX5_placeOf_7_0 F x1 σ o hf s.heap [] ls hl hW
abbrev rXX4_time_6 : Room := { frames := 1, cells := 0, slots := 0, locals := 22 }
set_option maxHeartbeats 4000000 in
set_option maxRecDepth 100000 in
theorem wXX4_time_6_0 {p : Program} {l : Launch} {e : Env} {s : State} {m : MethodId} {args : Array Value} {below : List Frame} {meth : Method} {c : Code} {A : Nat → Prop} {K : KX} (F : fx_ p s m args meth c cX4_time 3 (some .long) RX4 wsX4_time) (x1 : Int32) (x2 : Int32) (σ : XS) (o : (Int64 × XS)) (hf : fXX4_time_6_0 (kn K) x1 x2 σ = some o) (H : Heap) (locs : List Loc) (ls : Array Slot) (hl : lv_has ls 3 [(0, .ref (ka K 6)), (1, .int x1), (2, .int x2)]) (hW : gw_ (kD K) vwCl (tyX K) (wX K) A s σ H locs) : W p l e rXX4_time_6 s m args below meth c H locs 0 0 (MQ below (gw_Ql (kD K) vwCl (tyX K) (wX K) A o) args s rXX4_time_6.cells rXX4_time_6.slots A) (F0 m 0 ls []) := by
  have hx := F.1
  have hb := F.2.1
  have hml := F.2.2.2.1
  have hown := F.2.2.2.2.1
  have hts := F.2.2.2.2.2.1
  have hG : ∀ x ∈ gT, x.before args s = true := fun x h => hts x (List.mem_cons_of_mem _ h)
  unfold fXX4_time_6_0 at hf
  refine lv_aload_n hx hb dX4_time_0 rfl (lv_at hl 0 rfl) ?_
  refine gw_get (v := .ref (ka K 1)) F inc_X4 hW 6 4 0 (aX_6 K σ) rfl (by decide) (hG _ q_1_108) (fun _ h9 => h9) rfl dX4_time_1 ?_
  refine lv_aload_n hx hb dX4_time_4 rfl (lv_at hl 0 rfl) ?_
  refine gw_get (v := .ref (ka K 3)) F inc_X4 hW 6 4 1 (aX_6 K σ) rfl (by decide) (hG _ q_1_109) (fun _ h9 => h9) rfl dX4_time_5 ?_
  refine lv_iload_n hx hb dX4_time_8 rfl (lv_at hl 1 rfl) ?_
  obtain ⟨o1, h2, hf⟩ := gw_bind hf
  refine gw_Vi (As := [.int x1]) (mc' := 0) (ms' := 0) F hW (mXX2_inodeAt_3 h2) (cwV 1 hts (gT_V q_2_147 q_2_101 q_2_102 q_1_4 q_2_103) rfl rfl rfl hdX2_inodeAt ⟨Nat.le_of_ble_eq_true rfl, Nat.le_of_ble_eq_true rfl⟩) 3 2 (aX_3 K σ) rfl rfl hl.1 rfl (Nat.le_of_ble_eq_true rfl) dX4_time_9 ⟨Nat.le_of_ble_eq_true rfl, Nat.le_of_ble_eq_true rfl⟩ rfl rfl (fun H locs hW => ?_)
  refine lv_bipush (v := (8 : Int32)) hx hb dX4_time_12 (by decide) ?_
  refine lv_iadd hx hb dX4_time_14 ?_
  refine lv_iconst (v := (4 : Int32)) hx hb dX4_time_15 (by decide) ?_
  refine lv_iload_n hx hb dX4_time_16 rfl (lv_at hl 2 rfl) ?_
  refine lv_imul hx hb dX4_time_17 ?_
  refine lv_iadd hx hb dX4_time_18 ?_
  obtain ⟨o4, h5, hf⟩ := gw_bind hf
  refine gw_Vi (As := [.int ((o1.1 + (8 : Int32)) + ((4 : Int32) * x2))]) (mc' := 0) (ms' := 0) F hW (mXX1_get4_1 h5) (cwV 1 hts (gT_V q_2_157 q_2_114 q_2_115 q_1_3 q_2_116) rfl rfl rfl hdX1_get4 ⟨Nat.le_of_ble_eq_true rfl, Nat.le_of_ble_eq_true rfl⟩) 1 1 (aX_1 K o1.2) rfl rfl hl.1 rfl (Nat.le_of_ble_eq_true rfl) dX4_time_19 ⟨Nat.le_of_ble_eq_true rfl, Nat.le_of_ble_eq_true rfl⟩ rfl rfl (fun H locs hW => ?_)
  refine lv_i2l (v := o4.1.toInt64) hx hb dX4_time_22 rfl ?_
  refine lv_ldc2 (own := RX4) (v := (4294967295 : Int64)) hx hb hown (hts _ (List.mem_cons_of_mem _ q_5_136)) dX4_time_23 ?_
  refine lv_land hx hb dX4_time_26 ?_
  exact gw_retl F hW hf dX4_time_27
set_option maxHeartbeats 4000000 in
set_option maxRecDepth 100000 in
theorem mXX4_time_6 {l : Launch} {K : KX} {σ : XS} {x1 : Int32} {x2 : Int32} {o : (Int64 × XS)} (hf : fXX4_time_6 (kn K) x1 x2 σ = some o) : gw_Ml l (kD K) vwCl (tyX K) (wX K) yX4_time wsX4_time rXX4_time_6 [.ref (ka K 6), .int x1, .int x2] σ o := by
  intro sz
  refine gw_body (cc := cX4_time) (maxL := 3) (yret := some .long) (by decide +kernel) rfl ?_ (Nat.le_of_ble_eq_true rfl)
  intro p e s m below meth c F hsz hW ls hl
  exact wXX4_time_6_0 F x1 x2 σ o hf s.heap [] ls hl hW
abbrev rXX8_drain_16 : Room := { frames := 0, cells := 0, slots := 0, locals := 0 }
set_option maxHeartbeats 4000000 in
set_option maxRecDepth 100000 in
theorem wXX8_drain_16_0 {p : Program} {l : Launch} {e : Env} {s : State} {m : MethodId} {args : Array Value} {below : List Frame} {meth : Method} {c : Code} {A : Nat → Prop} {K : KX} (F : fx_ p s m args meth c cX8_drain 2 (some .int) RX8 wsX8_drain) (σ : XS) (o : (Int32 × XS)) (hf : fXX8_drain_16_0 (kn K) σ = some o) (H : Heap) (locs : List Loc) (ls : Array Slot) (hl : lv_has ls 2 [(0, .ref (ka K 16))]) (hW : gw_ (kD K) vwCl (tyX K) (wX K) A s σ H locs) : W p l e rXX8_drain_16 s m args below meth c H locs 0 0 (MQ below (gw_Qi (kD K) vwCl (tyX K) (wX K) A o) args s rXX8_drain_16.cells rXX8_drain_16.slots A) (F0 m 0 ls []) := by
  have hx := F.1
  have hb := F.2.1
  have hml := F.2.2.2.1
  have hown := F.2.2.2.2.1
  have hts := F.2.2.2.2.2.1
  have hG : ∀ x ∈ gT, x.before args s = true := fun x h => hts x (List.mem_cons_of_mem _ h)
  unfold fXX8_drain_16_0 at hf
  refine lv_aload_n hx hb dX8_drain_0 rfl (lv_at hl 0 rfl) ?_
  refine gw_get (v := .int (σ.1 8)) F inc_X8 hW 16 8 2 (aX_16 K σ) rfl (by decide) (hG _ q_1_215) (fun _ h9 => h9) rfl dX8_drain_1 ?_
  refine lv_istore_n (lv' := [(1, .int (σ.1 8)), (0, .ref (ka K 16))]) hx hb dX8_drain_4 rfl hl (by decide) rfl (fun ls hl => ?_)
  refine lv_aload_n hx hb dX8_drain_5 rfl (lv_at hl 1 rfl) ?_
  refine lv_iconst (v := (0 : Int32)) hx hb dX8_drain_6 (by decide) ?_
  refine gw_put (σ' := (stS σ 8 (0 : Int32))) (ty := .int) F inc_X8 tyX8 tyX8_ok nmX8 hW 16 8 2 (aX_16 K σ) rfl (by decide) (hG _ q_1_215) (fun _ h9 => h9) rfl (by decide +kernel) rfl rfl (Nat.le_of_ble_eq_true rfl) dX8_drain_7 (sSX_8 _ _ _) (fun H locs hW => ?_)
  refine lv_iload_n hx hb dX8_drain_10 rfl (lv_at hl 0 rfl) ?_
  exact gw_reti F hW hf dX8_drain_11
set_option maxHeartbeats 4000000 in
set_option maxRecDepth 100000 in
theorem mXX8_drain_16 {l : Launch} {K : KX} {σ : XS} {o : (Int32 × XS)} (hf : fXX8_drain_16 (kn K) σ = some o) : gw_Mi l (kD K) vwCl (tyX K) (wX K) yX8_drain wsX8_drain rXX8_drain_16 [.ref (ka K 16)] σ o := by
  intro sz
  refine gw_body (cc := cX8_drain) (maxL := 2) (yret := some .int) (by decide +kernel) rfl ?_ (Nat.le_of_ble_eq_true rfl)
  intro p e s m below meth c F hsz hW ls hl
  exact wXX8_drain_16_0 F σ o hf s.heap [] ls hl hW
abbrev rXX8_valueAt_16 : Room := { frames := 0, cells := 0, slots := 0, locals := 0 }
set_option maxHeartbeats 4000000 in
set_option maxRecDepth 100000 in
theorem wXX8_valueAt_16_0 {p : Program} {l : Launch} {e : Env} {s : State} {m : MethodId} {args : Array Value} {below : List Frame} {meth : Method} {c : Code} {A : Nat → Prop} {K : KX} (F : fx_ p s m args meth c cX8_valueAt 2 (some .int) RX8 wsX8_valueAt) (x1 : Int32) (σ : XS) (o : (Int32 × XS)) (hf : fXX8_valueAt_16_0 (kn K) x1 σ = some o) (H : Heap) (locs : List Loc) (ls : Array Slot) (hl : lv_has ls 2 [(0, .ref (ka K 16)), (1, .int x1)]) (hW : gw_ (kD K) vwCl (tyX K) (wX K) A s σ H locs) : W p l e rXX8_valueAt_16 s m args below meth c H locs 0 0 (MQ below (gw_Qi (kD K) vwCl (tyX K) (wX K) A o) args s rXX8_valueAt_16.cells rXX8_valueAt_16.slots A) (F0 m 0 ls []) := by
  have hx := F.1
  have hb := F.2.1
  have hml := F.2.2.2.1
  have hown := F.2.2.2.2.1
  have hts := F.2.2.2.2.2.1
  have hG : ∀ x ∈ gT, x.before args s = true := fun x h => hts x (List.mem_cons_of_mem _ h)
  unfold fXX8_valueAt_16_0 at hf
  refine lv_iload_n hx hb dX8_valueAt_0 rfl (lv_at hl 1 rfl) ?_
  refine lv_if_lt (tgt := 26) hx hb dX8_valueAt_1 (by decide) (fun c1 => ?_) (fun c1 => ?_)
  · replace hf := (if_pos c1).symm.trans hf
    refine lv_iconst (v := (0 : Int32)) hx hb dX8_valueAt_26 (by decide) ?_
    exact gw_reti F hW hf dX8_valueAt_27
  · replace hf := (if_neg c1).symm.trans hf
    refine lv_iload_n hx hb dX8_valueAt_4 rfl (lv_at hl 1 rfl) ?_
    refine lv_aload_n hx hb dX8_valueAt_5 rfl (lv_at hl 0 rfl) ?_
    refine gw_get (v := .ref (ka K 17)) F inc_X8 hW 16 8 0 (aX_16 K σ) rfl (by decide) (hG _ q_1_213) (fun _ h9 => h9) rfl dX8_valueAt_6 ?_
    refine gw_alen F hW 17 6 (aX_17 K σ) rfl dX8_valueAt_9 ?_
    refine lv_icmp_ge (tgt := 26) hx hb dX8_valueAt_10 (by decide) (fun c2 => ?_) (fun c2 => ?_)
    · replace hf := (if_pos c2).symm.trans hf
      refine lv_iconst (v := (0 : Int32)) hx hb dX8_valueAt_26 (by decide) ?_
      exact gw_reti F hW hf dX8_valueAt_27
    · replace hf := (if_neg c2).symm.trans hf
      refine lv_aload_n hx hb dX8_valueAt_13 rfl (lv_at hl 0 rfl) ?_
      refine gw_get (v := .ref (ka K 17)) F inc_X8 hW 16 8 0 (aX_16 K σ) rfl (by decide) (hG _ q_1_213) (fun _ h9 => h9) rfl dX8_valueAt_14 ?_
      refine lv_iload_n hx hb dX8_valueAt_17 rfl (lv_at hl 1 rfl) ?_
      rcases Decidable.em (x1 < 0 ∨ 4096 ≤ x1.toNatClampNeg) with c3 | c3
      · replace hf := (if_pos c3).symm.trans hf
        exact absurd hf (by simp)
      · replace hf := (if_neg c3).symm.trans hf
        refine gw_bald F hW 17 6 (aX_17 K σ) rfl c3 dX8_valueAt_18 ?_
        refine lv_sipush (v := (255 : Int32)) hx hb dX8_valueAt_19 (by decide) ?_
        refine lv_iand hx hb dX8_valueAt_22 ?_
        refine lv_goto (tgt := 27) hx hb dX8_valueAt_23 (by decide) ?_
        exact gw_reti F hW hf dX8_valueAt_27
set_option maxHeartbeats 4000000 in
set_option maxRecDepth 100000 in
theorem mXX8_valueAt_16 {l : Launch} {K : KX} {σ : XS} {x1 : Int32} {o : (Int32 × XS)} (hf : fXX8_valueAt_16 (kn K) x1 σ = some o) : gw_Mi l (kD K) vwCl (tyX K) (wX K) yX8_valueAt wsX8_valueAt rXX8_valueAt_16 [.ref (ka K 16), .int x1] σ o := by
  intro sz
  refine gw_body (cc := cX8_valueAt) (maxL := 2) (yret := some .int) (by decide +kernel) rfl ?_ (Nat.le_of_ble_eq_true rfl)
  intro p e s m below meth c F hsz hW ls hl
  exact wXX8_valueAt_16_0 F x1 σ o hf s.heap [] ls hl hW
abbrev rXX8_isName_16 : Room := { frames := 1, cells := 0, slots := 0, locals := 21 }
def PXX8_isName_16_16 (p : Program) (l : Launch) (e : Env) (s : State) (m : MethodId) (args : Array Value) (below : List Frame) (meth : Method) (c : Code) (A : Nat → Prop) (K : KX) (t : (Int32 × Int32 × XS)) (o : (Int32 × XS)) : Prop := ∀ (H : Heap) (locs : List Loc) (ls : Array Slot), lv_has ls 3 [(0, .ref (ka K 16)), (1, .int t.1), (2, .int t.2.1)] → gw_ (kD K) vwCl (tyX K) (wX K) A s t.2.2 H locs → W p l e rXX8_isName_16 s m args below meth c H locs 0 0 (MQ below (va_Qi (fun r u => (r = o.1 ∧ u = o.2) ∧ (o.1 = 0 ∨ o.1 = 1)) (gw_B (kD K) vwCl (tyX K) (wX K) A) A) args s rXX8_isName_16.cells rXX8_isName_16.slots A) (F0 m 16 ls [])
set_option maxHeartbeats 4000000 in
set_option maxRecDepth 100000 in
theorem wXX8_isName_16_82 {p : Program} {l : Launch} {e : Env} {s : State} {m : MethodId} {args : Array Value} {below : List Frame} {meth : Method} {c : Code} {A : Nat → Prop} {K : KX} (F : fx_ p s m args meth c cX8_isName 3 (some .boolean) RX8 wsX8_isName) (y0 : Int32) (σ : XS) (o : (Int32 × XS)) (hf : fXX8_isName_16_82 (kn K) y0 σ = some o) (H : Heap) (locs : List Loc) (ls : Array Slot) (hl : lv_has ls 3 []) (hW : gw_ (kD K) vwCl (tyX K) (wX K) A s σ H locs) : W p l e rXX8_isName_16 s m args below meth c H locs 0 0 (MQ below (va_Qi (fun r u => (r = o.1 ∧ u = o.2) ∧ (o.1 = 0 ∨ o.1 = 1)) (gw_B (kD K) vwCl (tyX K) (wX K) A) A) args s rXX8_isName_16.cells rXX8_isName_16.slots A) (F0 m 82 ls [.int y0]) := by
  have hx := F.1
  have hb := F.2.1
  have hml := F.2.2.2.1
  have hown := F.2.2.2.2.1
  have hts := F.2.2.2.2.2.1
  have hG : ∀ x ∈ gT, x.before args s = true := fun x h => hts x (List.mem_cons_of_mem _ h)
  unfold fXX8_isName_16_82 at hf
  refine lv_istore_n (lv' := [(2, .int y0)]) hx hb dX8_isName_82 rfl hl (by decide) rfl (fun ls hl => ?_)
  refine lv_iload_n hx hb dX8_isName_83 rfl (lv_at hl 0 rfl) ?_
  refine lv_if_ne (tgt := 91) hx hb dX8_isName_84 (by decide) (fun c8 => ?_) (fun c8 => ?_)
  · replace hf := (if_neg c8).symm.trans hf
    refine lv_iconst (v := (0 : Int32)) hx hb dX8_isName_91 (by decide) ?_
    exact gw_retz F hW hf (Or.inl rfl) dX8_isName_92
  · replace hf := (if_pos c8).symm.trans hf
    refine lv_iconst (v := (1 : Int32)) hx hb dX8_isName_87 (by decide) ?_
    refine lv_goto (tgt := 92) hx hb dX8_isName_88 (by decide) ?_
    exact gw_retz F hW hf (Or.inr rfl) dX8_isName_92
set_option maxHeartbeats 4000000 in
set_option maxRecDepth 100000 in
theorem wXX8_isName_16_81 {p : Program} {l : Launch} {e : Env} {s : State} {m : MethodId} {args : Array Value} {below : List Frame} {meth : Method} {c : Code} {A : Nat → Prop} {K : KX} (F : fx_ p s m args meth c cX8_isName 3 (some .boolean) RX8 wsX8_isName) (σ : XS) (o : (Int32 × XS)) (hf : fXX8_isName_16_81 (kn K) σ = some o) (H : Heap) (locs : List Loc) (ls : Array Slot) (hl : lv_has ls 3 []) (hW : gw_ (kD K) vwCl (tyX K) (wX K) A s σ H locs) : W p l e rXX8_isName_16 s m args below meth c H locs 0 0 (MQ below (va_Qi (fun r u => (r = o.1 ∧ u = o.2) ∧ (o.1 = 0 ∨ o.1 = 1)) (gw_B (kD K) vwCl (tyX K) (wX K) A) A) args s rXX8_isName_16.cells rXX8_isName_16.slots A) (F0 m 81 ls []) := by
  have hx := F.1
  have hb := F.2.1
  have hml := F.2.2.2.1
  have hown := F.2.2.2.2.1
  have hts := F.2.2.2.2.2.1
  have hG : ∀ x ∈ gT, x.before args s = true := fun x h => hts x (List.mem_cons_of_mem _ h)
  unfold fXX8_isName_16_81 at hf
  refine lv_iconst (v := (0 : Int32)) hx hb dX8_isName_81 (by decide) ?_
  exact wXX8_isName_16_82 F (0 : Int32) _ _ hf _ _ _ (lv_sub hl [] rfl) hW
set_option maxHeartbeats 4000000 in
set_option maxRecDepth 100000 in
theorem wXX8_isName_16_77 {p : Program} {l : Launch} {e : Env} {s : State} {m : MethodId} {args : Array Value} {below : List Frame} {meth : Method} {c : Code} {A : Nat → Prop} {K : KX} (F : fx_ p s m args meth c cX8_isName 3 (some .boolean) RX8 wsX8_isName) (σ : XS) (o : (Int32 × XS)) (hf : fXX8_isName_16_77 (kn K) σ = some o) (H : Heap) (locs : List Loc) (ls : Array Slot) (hl : lv_has ls 3 []) (hW : gw_ (kD K) vwCl (tyX K) (wX K) A s σ H locs) : W p l e rXX8_isName_16 s m args below meth c H locs 0 0 (MQ below (va_Qi (fun r u => (r = o.1 ∧ u = o.2) ∧ (o.1 = 0 ∨ o.1 = 1)) (gw_B (kD K) vwCl (tyX K) (wX K) A) A) args s rXX8_isName_16.cells rXX8_isName_16.slots A) (F0 m 77 ls []) := by
  have hx := F.1
  have hb := F.2.1
  have hml := F.2.2.2.1
  have hown := F.2.2.2.2.1
  have hts := F.2.2.2.2.2.1
  have hG : ∀ x ∈ gT, x.before args s = true := fun x h => hts x (List.mem_cons_of_mem _ h)
  unfold fXX8_isName_16_77 at hf
  refine lv_iconst (v := (1 : Int32)) hx hb dX8_isName_77 (by decide) ?_
  refine lv_goto (tgt := 82) hx hb dX8_isName_78 (by decide) ?_
  exact wXX8_isName_16_82 F (1 : Int32) _ _ hf _ _ _ (lv_sub hl [] rfl) hW
set_option maxHeartbeats 4000000 in
set_option maxRecDepth 100000 in
theorem wXX8_isName_16_16 {p : Program} {l : Launch} {e : Env} {s : State} {m : MethodId} {args : Array Value} {below : List Frame} {meth : Method} {c : Code} {A : Nat → Prop} {K : KX} (F : fx_ p s m args meth c cX8_isName 3 (some .boolean) RX8 wsX8_isName) {k16 : (Int32 × Int32 × XS) → Option (Int32 × XS)} (hk16 : ∀ t o, k16 t = some o → PXX8_isName_16_16 p l e s m args below meth c A K t o) (x1 : Int32) (x2 : Int32) (σ : XS) (o : (Int32 × XS)) (hf : fXX8_isName_16_16 (kn K) k16 x1 x2 σ = some o) (H : Heap) (locs : List Loc) (ls : Array Slot) (hl : lv_has ls 3 [(0, .ref (ka K 16)), (1, .int x1), (2, .int x2)]) (hW : gw_ (kD K) vwCl (tyX K) (wX K) A s σ H locs) : W p l e rXX8_isName_16 s m args below meth c H locs 0 0 (MQ below (va_Qi (fun r u => (r = o.1 ∧ u = o.2) ∧ (o.1 = 0 ∨ o.1 = 1)) (gw_B (kD K) vwCl (tyX K) (wX K) A) A) args s rXX8_isName_16.cells rXX8_isName_16.slots A) (F0 m 16 ls []) := by
  have hx := F.1
  have hb := F.2.1
  have hml := F.2.2.2.1
  have hown := F.2.2.2.2.1
  have hts := F.2.2.2.2.2.1
  have hG : ∀ x ∈ gT, x.before args s = true := fun x h => hts x (List.mem_cons_of_mem _ h)
  unfold fXX8_isName_16_16 at hf
  refine lv_iload_n hx hb dX8_isName_16 rfl (lv_at hl 2 rfl) ?_
  refine lv_iload_n hx hb dX8_isName_17 rfl (lv_at hl 1 rfl) ?_
  refine lv_icmp_ge (tgt := 47) hx hb dX8_isName_18 (by decide) (fun c3 => ?_) (fun c3 => ?_)
  · replace hf := (if_pos c3).symm.trans hf
    refine lv_aload_n hx hb dX8_isName_47 rfl (lv_at hl 0 rfl) ?_
    refine lv_iconst (v := (0 : Int32)) hx hb dX8_isName_48 (by decide) ?_
    obtain ⟨o4, h5, hf⟩ := gw_bind hf
    refine gw_Vi (As := [.int (0 : Int32)]) (mc' := 0) (ms' := 0) F hW (mXX8_valueAt_16 h5) (cwV 1 hts (gT_V q_5_178 q_5_179 q_5_180 q_1_11 q_5_181) rfl rfl rfl hdX8_valueAt ⟨Nat.le_of_ble_eq_true rfl, Nat.le_of_ble_eq_true rfl⟩) 16 8 (aX_16 K σ) rfl rfl hl.1 rfl (Nat.le_of_ble_eq_true rfl) dX8_isName_49 ⟨Nat.le_of_ble_eq_true rfl, Nat.le_of_ble_eq_true rfl⟩ rfl rfl (fun H locs hW => ?_)
    refine lv_bipush (v := (46 : Int32)) hx hb dX8_isName_52 (by decide) ?_
    refine lv_icmp_ne (tgt := 81) hx hb dX8_isName_54 (by decide) (fun c7 => ?_) (fun c7 => ?_)
    · replace hf := (if_neg c7).symm.trans hf
      exact wXX8_isName_16_81 F _ _ hf _ _ _ (lv_sub hl [] rfl) hW
    · replace hf := (if_pos c7).symm.trans hf
      refine lv_iload_n hx hb dX8_isName_57 rfl (lv_at hl 1 rfl) ?_
      refine lv_iconst (v := (1 : Int32)) hx hb dX8_isName_58 (by decide) ?_
      refine lv_icmp_eq (tgt := 77) hx hb dX8_isName_59 (by decide) (fun c9 => ?_) (fun c9 => ?_)
      · replace hf := (if_pos c9).symm.trans hf
        exact wXX8_isName_16_77 F _ _ hf _ _ _ (lv_sub hl [] rfl) hW
      · replace hf := (if_neg c9).symm.trans hf
        refine lv_iload_n hx hb dX8_isName_62 rfl (lv_at hl 1 rfl) ?_
        refine lv_iconst (v := (2 : Int32)) hx hb dX8_isName_63 (by decide) ?_
        refine lv_icmp_ne (tgt := 81) hx hb dX8_isName_64 (by decide) (fun c10 => ?_) (fun c10 => ?_)
        · replace hf := (if_neg c10).symm.trans hf
          exact wXX8_isName_16_81 F _ _ hf _ _ _ (lv_sub hl [] rfl) hW
        · replace hf := (if_pos c10).symm.trans hf
          refine lv_aload_n hx hb dX8_isName_67 rfl (lv_at hl 0 rfl) ?_
          refine lv_iconst (v := (1 : Int32)) hx hb dX8_isName_68 (by decide) ?_
          obtain ⟨o11, h12, hf⟩ := gw_bind hf
          refine gw_Vi (As := [.int (1 : Int32)]) (mc' := 0) (ms' := 0) F hW (mXX8_valueAt_16 h12) (cwV 1 hts (gT_V q_5_178 q_5_179 q_5_180 q_1_11 q_5_181) rfl rfl rfl hdX8_valueAt ⟨Nat.le_of_ble_eq_true rfl, Nat.le_of_ble_eq_true rfl⟩) 16 8 (aX_16 K o4.2) rfl rfl hl.1 rfl (Nat.le_of_ble_eq_true rfl) dX8_isName_69 ⟨Nat.le_of_ble_eq_true rfl, Nat.le_of_ble_eq_true rfl⟩ rfl rfl (fun H locs hW => ?_)
          refine lv_bipush (v := (46 : Int32)) hx hb dX8_isName_72 (by decide) ?_
          refine lv_icmp_ne (tgt := 81) hx hb dX8_isName_74 (by decide) (fun c14 => ?_) (fun c14 => ?_)
          · replace hf := (if_neg c14).symm.trans hf
            exact wXX8_isName_16_81 F _ _ hf _ _ _ (lv_sub hl [] rfl) hW
          · replace hf := (if_pos c14).symm.trans hf
            exact wXX8_isName_16_77 F _ _ hf _ _ _ (lv_sub hl [] rfl) hW
  · replace hf := (if_neg c3).symm.trans hf
    refine lv_aload_n hx hb dX8_isName_21 rfl (lv_at hl 0 rfl) ?_
    refine lv_iload_n hx hb dX8_isName_22 rfl (lv_at hl 2 rfl) ?_
    obtain ⟨o15, h16, hf⟩ := gw_bind hf
    refine gw_Vi (As := [.int x2]) (mc' := 0) (ms' := 0) F hW (mXX8_valueAt_16 h16) (cwV 1 hts (gT_V q_5_178 q_5_179 q_5_180 q_1_11 q_5_181) rfl rfl rfl hdX8_valueAt ⟨Nat.le_of_ble_eq_true rfl, Nat.le_of_ble_eq_true rfl⟩) 16 8 (aX_16 K σ) rfl rfl hl.1 rfl (Nat.le_of_ble_eq_true rfl) dX8_isName_23 ⟨Nat.le_of_ble_eq_true rfl, Nat.le_of_ble_eq_true rfl⟩ rfl rfl (fun H locs hW => ?_)
    refine lv_if_eq (tgt := 39) hx hb dX8_isName_26 (by decide) (fun c18 => ?_) (fun c18 => ?_)
    · replace hf := (if_pos c18).symm.trans hf
      refine lv_iconst (v := (0 : Int32)) hx hb dX8_isName_39 (by decide) ?_
      exact gw_retz F hW hf (Or.inl rfl) dX8_isName_40
    · replace hf := (if_neg c18).symm.trans hf
      refine lv_aload_n hx hb dX8_isName_29 rfl (lv_at hl 0 rfl) ?_
      refine lv_iload_n hx hb dX8_isName_30 rfl (lv_at hl 2 rfl) ?_
      obtain ⟨o19, h20, hf⟩ := gw_bind hf
      refine gw_Vi (As := [.int x2]) (mc' := 0) (ms' := 0) F hW (mXX8_valueAt_16 h20) (cwV 1 hts (gT_V q_5_178 q_5_179 q_5_180 q_1_11 q_5_181) rfl rfl rfl hdX8_valueAt ⟨Nat.le_of_ble_eq_true rfl, Nat.le_of_ble_eq_true rfl⟩) 16 8 (aX_16 K o15.2) rfl rfl hl.1 rfl (Nat.le_of_ble_eq_true rfl) dX8_isName_31 ⟨Nat.le_of_ble_eq_true rfl, Nat.le_of_ble_eq_true rfl⟩ rfl rfl (fun H locs hW => ?_)
      refine lv_bipush (v := (47 : Int32)) hx hb dX8_isName_34 (by decide) ?_
      refine lv_icmp_ne (tgt := 41) hx hb dX8_isName_36 (by decide) (fun c22 => ?_) (fun c22 => ?_)
      · replace hf := (if_neg c22).symm.trans hf
        refine lv_iinc (v := (x2 + (1 : Int32))) (lv' := [(2, .int (x2 + (1 : Int32))), (0, .ref (ka K 16)), (1, .int x1)]) hx hb dX8_isName_41 hl (k := 2) rfl rfl (by decide) rfl (fun ls hl => ?_)
        refine lv_goto (tgt := 16) hx hb dX8_isName_44 (by decide) ?_
        exact hk16 _ _ hf _ _ _ (lv_sub hl [1, 2, 0] rfl) hW
      · replace hf := (if_pos c22).symm.trans hf
        refine lv_iconst (v := (0 : Int32)) hx hb dX8_isName_39 (by decide) ?_
        exact gw_retz F hW hf (Or.inl rfl) dX8_isName_40
set_option maxHeartbeats 4000000 in
set_option maxRecDepth 100000 in
theorem wXX8_isName_16_0 {p : Program} {l : Launch} {e : Env} {s : State} {m : MethodId} {args : Array Value} {below : List Frame} {meth : Method} {c : Code} {A : Nat → Prop} {K : KX} (F : fx_ p s m args meth c cX8_isName 3 (some .boolean) RX8 wsX8_isName) (x1 : Int32) (σ : XS) (o : (Int32 × XS)) (hf : fXX8_isName_16_0 (kn K) x1 σ = some o) (H : Heap) (locs : List Loc) (ls : Array Slot) (hl : lv_has ls 3 [(0, .ref (ka K 16)), (1, .int x1)]) (hW : gw_ (kD K) vwCl (tyX K) (wX K) A s σ H locs) : W p l e rXX8_isName_16 s m args below meth c H locs 0 0 (MQ below (va_Qi (fun r u => (r = o.1 ∧ u = o.2) ∧ (o.1 = 0 ∨ o.1 = 1)) (gw_B (kD K) vwCl (tyX K) (wX K) A) A) args s rXX8_isName_16.cells rXX8_isName_16.slots A) (F0 m 0 ls []) := by
  have hx := F.1
  have hb := F.2.1
  have hml := F.2.2.2.1
  have hown := F.2.2.2.2.1
  have hts := F.2.2.2.2.2.1
  have hG : ∀ x ∈ gT, x.before args s = true := fun x h => hts x (List.mem_cons_of_mem _ h)
  unfold fXX8_isName_16_0 at hf
  refine lv_iload_n hx hb dX8_isName_0 rfl (lv_at hl 1 rfl) ?_
  refine lv_iconst (v := (1 : Int32)) hx hb dX8_isName_1 (by decide) ?_
  refine lv_icmp_lt (tgt := 12) hx hb dX8_isName_2 (by decide) (fun c1 => ?_) (fun c1 => ?_)
  · replace hf := (if_pos c1).symm.trans hf
    refine lv_iconst (v := (0 : Int32)) hx hb dX8_isName_12 (by decide) ?_
    exact gw_retz F hW hf (Or.inl rfl) dX8_isName_13
  · replace hf := (if_neg c1).symm.trans hf
    refine lv_iload_n hx hb dX8_isName_5 rfl (lv_at hl 1 rfl) ?_
    refine lv_sipush (v := (255 : Int32)) hx hb dX8_isName_6 (by decide) ?_
    refine lv_icmp_le (tgt := 14) hx hb dX8_isName_9 (by decide) (fun c2 => ?_) (fun c2 => ?_)
    · replace hf := (if_pos c2).symm.trans hf
      refine lv_iconst (v := (0 : Int32)) hx hb dX8_isName_14 (by decide) ?_
      refine lv_istore_n (lv' := [(2, .int (0 : Int32)), (0, .ref (ka K 16)), (1, .int x1)]) hx hb dX8_isName_15 rfl hl (by decide) rfl (fun ls hl => ?_)
      exact lfix_ind (P := PXX8_isName_16_16 p l e s m args below meth c A K) (fun k16 hk16 t o hf => wXX8_isName_16_16 F hk16 t.1 t.2.1 t.2.2 o hf) FU _ _ hf _ _ _ (lv_sub hl [1, 2, 0] rfl) hW
    · replace hf := (if_neg c2).symm.trans hf
      refine lv_iconst (v := (0 : Int32)) hx hb dX8_isName_12 (by decide) ?_
      exact gw_retz F hW hf (Or.inl rfl) dX8_isName_13
set_option maxHeartbeats 4000000 in
set_option maxRecDepth 100000 in
theorem mXX8_isName_16 {l : Launch} {K : KX} {σ : XS} {x1 : Int32} {o : (Int32 × XS)} (hf : fXX8_isName_16 (kn K) x1 σ = some o) : gw_Mz l (kD K) vwCl (tyX K) (wX K) yX8_isName wsX8_isName rXX8_isName_16 [.ref (ka K 16), .int x1] σ o := by
  intro sz
  refine gw_body (cc := cX8_isName) (maxL := 3) (yret := some .boolean) (by decide +kernel) rfl ?_ (Nat.le_of_ble_eq_true rfl)
  intro p e s m below meth c F hsz hW ls hl
  exact wXX8_isName_16_0 F x1 σ o hf s.heap [] ls hl hW
abbrev rXX5_isNamed_7_16 : Room := { frames := 2, cells := 0, slots := 0, locals := 45 }
def PXX5_isNamed_7_16_14 (p : Program) (l : Launch) (e : Env) (s : State) (m : MethodId) (args : Array Value) (below : List Frame) (meth : Method) (c : Code) (A : Nat → Prop) (K : KX) (t : (Int32 × Int32 × Int32 × XS)) (o : (Int32 × XS)) : Prop := ∀ (H : Heap) (locs : List Loc) (ls : Array Slot), lv_has ls 5 [(0, .ref (ka K 7)), (1, .int t.1), (2, .ref (ka K 16)), (3, .int t.2.1), (4, .int t.2.2.1)] → gw_ (kD K) vwCl (tyX K) (wX K) A s t.2.2.2 H locs → W p l e rXX5_isNamed_7_16 s m args below meth c H locs 0 0 (MQ below (va_Qi (fun r u => (r = o.1 ∧ u = o.2) ∧ (o.1 = 0 ∨ o.1 = 1)) (gw_B (kD K) vwCl (tyX K) (wX K) A) A) args s rXX5_isNamed_7_16.cells rXX5_isNamed_7_16.slots A) (F0 m 14 ls [])
set_option maxHeartbeats 4000000 in
set_option maxRecDepth 100000 in
theorem wXX5_isNamed_7_16_14 {p : Program} {l : Launch} {e : Env} {s : State} {m : MethodId} {args : Array Value} {below : List Frame} {meth : Method} {c : Code} {A : Nat → Prop} {K : KX} (F : fx_ p s m args meth c cX5_isNamed 5 (some .boolean) RX5 wsX5_isNamed) {k14 : (Int32 × Int32 × Int32 × XS) → Option (Int32 × XS)} (hk14 : ∀ t o, k14 t = some o → PXX5_isNamed_7_16_14 p l e s m args below meth c A K t o) (x1 : Int32) (x3 : Int32) (x4 : Int32) (σ : XS) (o : (Int32 × XS)) (hf : fXX5_isNamed_7_16_14 (kn K) k14 x1 x3 x4 σ = some o) (H : Heap) (locs : List Loc) (ls : Array Slot) (hl : lv_has ls 5 [(0, .ref (ka K 7)), (1, .int x1), (2, .ref (ka K 16)), (3, .int x3), (4, .int x4)]) (hW : gw_ (kD K) vwCl (tyX K) (wX K) A s σ H locs) : W p l e rXX5_isNamed_7_16 s m args below meth c H locs 0 0 (MQ below (va_Qi (fun r u => (r = o.1 ∧ u = o.2) ∧ (o.1 = 0 ∨ o.1 = 1)) (gw_B (kD K) vwCl (tyX K) (wX K) A) A) args s rXX5_isNamed_7_16.cells rXX5_isNamed_7_16.slots A) (F0 m 14 ls []) := by
  have hx := F.1
  have hb := F.2.1
  have hml := F.2.2.2.1
  have hown := F.2.2.2.2.1
  have hts := F.2.2.2.2.2.1
  have hG : ∀ x ∈ gT, x.before args s = true := fun x h => hts x (List.mem_cons_of_mem _ h)
  unfold fXX5_isNamed_7_16_14 at hf
  refine lv_iload hx hb dX5_isNamed_14 (lv_at hl 4 rfl) ?_
  refine lv_iload_n hx hb dX5_isNamed_16 rfl (lv_at hl 3 rfl) ?_
  refine lv_icmp_ge (tgt := 44) hx hb dX5_isNamed_17 (by decide) (fun c5 => ?_) (fun c5 => ?_)
  · replace hf := (if_pos c5).symm.trans hf
    refine lv_iconst (v := (1 : Int32)) hx hb dX5_isNamed_44 (by decide) ?_
    exact gw_retz F hW hf (Or.inr rfl) dX5_isNamed_45
  · replace hf := (if_neg c5).symm.trans hf
    refine lv_aload_n hx hb dX5_isNamed_20 rfl (lv_at hl 0 rfl) ?_
    refine lv_iload_n hx hb dX5_isNamed_21 rfl (lv_at hl 1 rfl) ?_
    refine lv_iload hx hb dX5_isNamed_22 (lv_at hl 4 rfl) ?_
    obtain ⟨o6, h7, hf⟩ := gw_bind hf
    refine gw_Vi (As := [.int x1, .int x4]) (mc' := 0) (ms' := 0) F hW (mXX5_letterOf_7 h7) (cwV 2 hts (gT_V q_5_191 q_2_211 q_2_212 q_1_7 q_2_213) rfl rfl rfl hdX5_letterOf ⟨Nat.le_of_ble_eq_true rfl, Nat.le_of_ble_eq_true rfl⟩) 7 5 (aX_7 K σ) rfl rfl hl.1 rfl (Nat.le_of_ble_eq_true rfl) dX5_isNamed_24 ⟨Nat.le_of_ble_eq_true rfl, Nat.le_of_ble_eq_true rfl⟩ rfl rfl (fun H locs hW => ?_)
    refine lv_aload_n hx hb dX5_isNamed_27 rfl (lv_at hl 2 rfl) ?_
    refine lv_iload hx hb dX5_isNamed_28 (lv_at hl 4 rfl) ?_
    obtain ⟨o9, h10, hf⟩ := gw_bind hf
    refine gw_Ui (As := [.int x4]) (mc' := 0) (ms' := 0) F hW (mXX8_valueAt_16 h10) (va_cwA 1 hts (gT_U q_5_192 q_5_194 q_5_198 q_5_179 q_1_11 q_5_181) rfl rfl rfl (hW.1.2 _ xb_0) (by decide +kernel) ⟨Nat.le_of_ble_eq_true rfl, Nat.le_of_ble_eq_true rfl⟩) 16 8 (aX_16 K o6.2) rfl rfl hl.1 rfl (Nat.le_of_ble_eq_true rfl) dX5_isNamed_30 ⟨Nat.le_of_ble_eq_true rfl, Nat.le_of_ble_eq_true rfl⟩ rfl rfl (fun H locs hW => ?_)
    refine lv_icmp_eq (tgt := 38) hx hb dX5_isNamed_33 (by decide) (fun c12 => ?_) (fun c12 => ?_)
    · replace hf := (if_pos c12).symm.trans hf
      refine lv_iinc (v := (x4 + (1 : Int32))) (lv' := [(4, .int (x4 + (1 : Int32))), (0, .ref (ka K 7)), (1, .int x1), (2, .ref (ka K 16)), (3, .int x3)]) hx hb dX5_isNamed_38 hl (k := 4) rfl rfl (by decide) rfl (fun ls hl => ?_)
      refine lv_goto (tgt := 14) hx hb dX5_isNamed_41 (by decide) ?_
      exact hk14 _ _ hf _ _ _ (lv_sub hl [1, 2, 3, 4, 0] rfl) hW
    · replace hf := (if_neg c12).symm.trans hf
      refine lv_iconst (v := (0 : Int32)) hx hb dX5_isNamed_36 (by decide) ?_
      exact gw_retz F hW hf (Or.inl rfl) dX5_isNamed_37
set_option maxHeartbeats 4000000 in
set_option maxRecDepth 100000 in
theorem wXX5_isNamed_7_16_0 {p : Program} {l : Launch} {e : Env} {s : State} {m : MethodId} {args : Array Value} {below : List Frame} {meth : Method} {c : Code} {A : Nat → Prop} {K : KX} (F : fx_ p s m args meth c cX5_isNamed 5 (some .boolean) RX5 wsX5_isNamed) (x1 : Int32) (x3 : Int32) (σ : XS) (o : (Int32 × XS)) (hf : fXX5_isNamed_7_16_0 (kn K) x1 x3 σ = some o) (H : Heap) (locs : List Loc) (ls : Array Slot) (hl : lv_has ls 5 [(0, .ref (ka K 7)), (1, .int x1), (2, .ref (ka K 16)), (3, .int x3)]) (hW : gw_ (kD K) vwCl (tyX K) (wX K) A s σ H locs) : W p l e rXX5_isNamed_7_16 s m args below meth c H locs 0 0 (MQ below (va_Qi (fun r u => (r = o.1 ∧ u = o.2) ∧ (o.1 = 0 ∨ o.1 = 1)) (gw_B (kD K) vwCl (tyX K) (wX K) A) A) args s rXX5_isNamed_7_16.cells rXX5_isNamed_7_16.slots A) (F0 m 0 ls []) := by
  have hx := F.1
  have hb := F.2.1
  have hml := F.2.2.2.1
  have hown := F.2.2.2.2.1
  have hts := F.2.2.2.2.2.1
  have hG : ∀ x ∈ gT, x.before args s = true := fun x h => hts x (List.mem_cons_of_mem _ h)
  unfold fXX5_isNamed_7_16_0 at hf
  refine lv_aload_n hx hb dX5_isNamed_0 rfl (lv_at hl 0 rfl) ?_
  refine lv_iload_n hx hb dX5_isNamed_1 rfl (lv_at hl 1 rfl) ?_
  obtain ⟨o1, h2, hf⟩ := gw_bind hf
  refine gw_Vi (As := [.int x1]) (mc' := 0) (ms' := 0) F hW (mXX5_nameLengthOf_7 h2) (cwV 1 hts (gT_V q_5_190 q_2_206 q_2_207 q_1_7 q_2_208) rfl rfl rfl hdX5_nameLengthOf ⟨Nat.le_of_ble_eq_true rfl, Nat.le_of_ble_eq_true rfl⟩) 7 5 (aX_7 K σ) rfl rfl hl.1 rfl (Nat.le_of_ble_eq_true rfl) dX5_isNamed_2 ⟨Nat.le_of_ble_eq_true rfl, Nat.le_of_ble_eq_true rfl⟩ rfl rfl (fun H locs hW => ?_)
  refine lv_iload_n hx hb dX5_isNamed_5 rfl (lv_at hl 3 rfl) ?_
  refine lv_icmp_eq (tgt := 11) hx hb dX5_isNamed_6 (by decide) (fun c4 => ?_) (fun c4 => ?_)
  · replace hf := (if_pos c4).symm.trans hf
    refine lv_iconst (v := (0 : Int32)) hx hb dX5_isNamed_11 (by decide) ?_
    refine lv_istore (lv' := [(4, .int (0 : Int32)), (0, .ref (ka K 7)), (1, .int x1), (2, .ref (ka K 16)), (3, .int x3)]) hx hb dX5_isNamed_12 hl (by decide) rfl (fun ls hl => ?_)
    exact lfix_ind (P := PXX5_isNamed_7_16_14 p l e s m args below meth c A K) (fun k14 hk14 t o hf => wXX5_isNamed_7_16_14 F hk14 t.1 t.2.1 t.2.2.1 t.2.2.2 o hf) FU _ _ hf _ _ _ (lv_sub hl [1, 2, 3, 4, 0] rfl) hW
  · replace hf := (if_neg c4).symm.trans hf
    refine lv_iconst (v := (0 : Int32)) hx hb dX5_isNamed_9 (by decide) ?_
    exact gw_retz F hW hf (Or.inl rfl) dX5_isNamed_10
set_option maxHeartbeats 4000000 in
set_option maxRecDepth 100000 in
theorem mXX5_isNamed_7_16 {l : Launch} {K : KX} {σ : XS} {x1 : Int32} {x3 : Int32} {o : (Int32 × XS)} (hf : fXX5_isNamed_7_16 (kn K) x1 x3 σ = some o) : gw_Mz l (kD K) vwCl (tyX K) (wX K) yX5_isNamed wsX5_isNamed rXX5_isNamed_7_16 [.ref (ka K 7), .int x1, .ref (ka K 16), .int x3] σ o := by
  intro sz
  refine gw_body (cc := cX5_isNamed) (maxL := 5) (yret := some .boolean) (by decide +kernel) rfl ?_ (Nat.le_of_ble_eq_true rfl)
  intro p e s m below meth c F hsz hW ls hl
  exact wXX5_isNamed_7_16_0 F x1 x3 σ o hf s.heap [] ls hl hW
abbrev rXX5_has_7_16 : Room := { frames := 3, cells := 0, slots := 0, locals := 69 }
def PXX5_has_7_16_2 (p : Program) (l : Launch) (e : Env) (s : State) (m : MethodId) (args : Array Value) (below : List Frame) (meth : Method) (c : Code) (A : Nat → Prop) (K : KX) (t : (Int32 × Int32 × XS)) (o : (Int32 × XS)) : Prop := ∀ (H : Heap) (locs : List Loc) (ls : Array Slot), lv_has ls 4 [(0, .ref (ka K 7)), (1, .ref (ka K 16)), (2, .int t.1), (3, .int t.2.1)] → gw_ (kD K) vwCl (tyX K) (wX K) A s t.2.2 H locs → W p l e rXX5_has_7_16 s m args below meth c H locs 0 0 (MQ below (va_Qi (fun r u => (r = o.1 ∧ u = o.2) ∧ (o.1 = 0 ∨ o.1 = 1)) (gw_B (kD K) vwCl (tyX K) (wX K) A) A) args s rXX5_has_7_16.cells rXX5_has_7_16.slots A) (F0 m 2 ls [])
set_option maxHeartbeats 4000000 in
set_option maxRecDepth 100000 in
theorem wXX5_has_7_16_30 {p : Program} {l : Launch} {e : Env} {s : State} {m : MethodId} {args : Array Value} {below : List Frame} {meth : Method} {c : Code} {A : Nat → Prop} {K : KX} (F : fx_ p s m args meth c cX5_has 4 (some .boolean) RX5 wsX5_has) {k2 : (Int32 × Int32 × XS) → Option (Int32 × XS)} (hk2 : ∀ t o, k2 t = some o → PXX5_has_7_16_2 p l e s m args below meth c A K t o) (x2 : Int32) (x3 : Int32) (σ : XS) (o : (Int32 × XS)) (hf : fXX5_has_7_16_30 (kn K) k2 x2 x3 σ = some o) (H : Heap) (locs : List Loc) (ls : Array Slot) (hl : lv_has ls 4 [(0, .ref (ka K 7)), (1, .ref (ka K 16)), (2, .int x2), (3, .int x3)]) (hW : gw_ (kD K) vwCl (tyX K) (wX K) A s σ H locs) : W p l e rXX5_has_7_16 s m args below meth c H locs 0 0 (MQ below (va_Qi (fun r u => (r = o.1 ∧ u = o.2) ∧ (o.1 = 0 ∨ o.1 = 1)) (gw_B (kD K) vwCl (tyX K) (wX K) A) A) args s rXX5_has_7_16.cells rXX5_has_7_16.slots A) (F0 m 30 ls []) := by
  have hx := F.1
  have hb := F.2.1
  have hml := F.2.2.2.1
  have hown := F.2.2.2.2.1
  have hts := F.2.2.2.2.2.1
  have hG : ∀ x ∈ gT, x.before args s = true := fun x h => hts x (List.mem_cons_of_mem _ h)
  unfold fXX5_has_7_16_30 at hf
  refine lv_iinc (v := (x3 + (1 : Int32))) (lv' := [(3, .int (x3 + (1 : Int32))), (0, .ref (ka K 7)), (1, .ref (ka K 16)), (2, .int x2)]) hx hb dX5_has_30 hl (k := 3) rfl rfl (by decide) rfl (fun ls hl => ?_)
  refine lv_goto (tgt := 2) hx hb dX5_has_33 (by decide) ?_
  exact hk2 _ _ hf _ _ _ (lv_sub hl [1, 2, 3, 0] rfl) hW
set_option maxHeartbeats 4000000 in
set_option maxRecDepth 100000 in
theorem wXX5_has_7_16_2 {p : Program} {l : Launch} {e : Env} {s : State} {m : MethodId} {args : Array Value} {below : List Frame} {meth : Method} {c : Code} {A : Nat → Prop} {K : KX} (F : fx_ p s m args meth c cX5_has 4 (some .boolean) RX5 wsX5_has) {k2 : (Int32 × Int32 × XS) → Option (Int32 × XS)} (hk2 : ∀ t o, k2 t = some o → PXX5_has_7_16_2 p l e s m args below meth c A K t o) (x2 : Int32) (x3 : Int32) (σ : XS) (o : (Int32 × XS)) (hf : fXX5_has_7_16_2 (kn K) k2 x2 x3 σ = some o) (H : Heap) (locs : List Loc) (ls : Array Slot) (hl : lv_has ls 4 [(0, .ref (ka K 7)), (1, .ref (ka K 16)), (2, .int x2), (3, .int x3)]) (hW : gw_ (kD K) vwCl (tyX K) (wX K) A s σ H locs) : W p l e rXX5_has_7_16 s m args below meth c H locs 0 0 (MQ below (va_Qi (fun r u => (r = o.1 ∧ u = o.2) ∧ (o.1 = 0 ∨ o.1 = 1)) (gw_B (kD K) vwCl (tyX K) (wX K) A) A) args s rXX5_has_7_16.cells rXX5_has_7_16.slots A) (F0 m 2 ls []) := by
  have hx := F.1
  have hb := F.2.1
  have hml := F.2.2.2.1
  have hown := F.2.2.2.2.1
  have hts := F.2.2.2.2.2.1
  have hG : ∀ x ∈ gT, x.before args s = true := fun x h => hts x (List.mem_cons_of_mem _ h)
  unfold fXX5_has_7_16_2 at hf
  refine lv_iload_n hx hb dX5_has_2 rfl (lv_at hl 3 rfl) ?_
  refine lv_aload_n hx hb dX5_has_3 rfl (lv_at hl 0 rfl) ?_
  refine gw_get (v := .int (σ.1 7)) F inc_X5 hW 7 5 3 (aX_7 K σ) rfl (by decide) (hG _ q_1_127) (fun _ h9 => h9) rfl dX5_has_4 ?_
  refine lv_icmp_ge (tgt := 36) hx hb dX5_has_7 (by decide) (fun c1 => ?_) (fun c1 => ?_)
  · replace hf := (if_pos c1).symm.trans hf
    refine lv_iconst (v := (0 : Int32)) hx hb dX5_has_36 (by decide) ?_
    exact gw_retz F hW hf (Or.inl rfl) dX5_has_37
  · replace hf := (if_neg c1).symm.trans hf
    refine lv_aload_n hx hb dX5_has_10 rfl (lv_at hl 0 rfl) ?_
    refine lv_iload_n hx hb dX5_has_11 rfl (lv_at hl 3 rfl) ?_
    obtain ⟨o2, h3, hf⟩ := gw_bind hf
    refine gw_Vi (As := [.int x3]) (mc' := 0) (ms' := 0) F hW (mXX5_inodeOf_7 h3) (cwV 1 hts (gT_V q_2_218 q_2_193 q_2_194 q_1_7 q_2_195) rfl rfl rfl hdX5_inodeOf ⟨Nat.le_of_ble_eq_true rfl, Nat.le_of_ble_eq_true rfl⟩) 7 5 (aX_7 K σ) rfl rfl hl.1 rfl (Nat.le_of_ble_eq_true rfl) dX5_has_12 ⟨Nat.le_of_ble_eq_true rfl, Nat.le_of_ble_eq_true rfl⟩ rfl rfl (fun H locs hW => ?_)
    refine lv_if_eq (tgt := 30) hx hb dX5_has_15 (by decide) (fun c5 => ?_) (fun c5 => ?_)
    · replace hf := (if_pos c5).symm.trans hf
      exact wXX5_has_7_16_30 F hk2 x2 x3 _ _ hf _ _ _ (lv_sub hl [0, 1, 2, 3] rfl) hW
    · replace hf := (if_neg c5).symm.trans hf
      refine lv_aload_n hx hb dX5_has_18 rfl (lv_at hl 0 rfl) ?_
      refine lv_iload_n hx hb dX5_has_19 rfl (lv_at hl 3 rfl) ?_
      refine lv_aload_n hx hb dX5_has_20 rfl (lv_at hl 1 rfl) ?_
      refine lv_iload_n hx hb dX5_has_21 rfl (lv_at hl 2 rfl) ?_
      obtain ⟨o6, h7, hf⟩ := gw_bind hf
      refine gw_Vz (As := [.int x3, .ref (ka K 16), .int x2]) (mc' := 0) (ms' := 0) F hW (mXX5_isNamed_7_16 h7) (cwV 3 hts (gT_V q_5_186 q_5_188 qp_30 q_1_7 q_5_189) rfl rfl rfl hdX5_isNamed ⟨Nat.le_of_ble_eq_true rfl, Nat.le_of_ble_eq_true rfl⟩) 7 5 (aX_7 K o2.2) rfl rfl hl.1 rfl (Nat.le_of_ble_eq_true rfl) dX5_has_22 ⟨Nat.le_of_ble_eq_true rfl, Nat.le_of_ble_eq_true rfl⟩ rfl rfl (fun H locs z8 hW => ?_)
      refine lv_if_eq (tgt := 30) hx hb dX5_has_25 (by decide) (fun c9 => ?_) (fun c9 => ?_)
      · replace hf := (if_pos c9).symm.trans hf
        exact wXX5_has_7_16_30 F hk2 x2 x3 _ _ hf _ _ _ (lv_sub hl [0, 1, 2, 3] rfl) hW
      · replace hf := (if_neg c9).symm.trans hf
        refine lv_iconst (v := (1 : Int32)) hx hb dX5_has_28 (by decide) ?_
        exact gw_retz F hW hf (Or.inr rfl) dX5_has_29
set_option maxHeartbeats 4000000 in
set_option maxRecDepth 100000 in
theorem wXX5_has_7_16_0 {p : Program} {l : Launch} {e : Env} {s : State} {m : MethodId} {args : Array Value} {below : List Frame} {meth : Method} {c : Code} {A : Nat → Prop} {K : KX} (F : fx_ p s m args meth c cX5_has 4 (some .boolean) RX5 wsX5_has) (x2 : Int32) (σ : XS) (o : (Int32 × XS)) (hf : fXX5_has_7_16_0 (kn K) x2 σ = some o) (H : Heap) (locs : List Loc) (ls : Array Slot) (hl : lv_has ls 4 [(0, .ref (ka K 7)), (1, .ref (ka K 16)), (2, .int x2)]) (hW : gw_ (kD K) vwCl (tyX K) (wX K) A s σ H locs) : W p l e rXX5_has_7_16 s m args below meth c H locs 0 0 (MQ below (va_Qi (fun r u => (r = o.1 ∧ u = o.2) ∧ (o.1 = 0 ∨ o.1 = 1)) (gw_B (kD K) vwCl (tyX K) (wX K) A) A) args s rXX5_has_7_16.cells rXX5_has_7_16.slots A) (F0 m 0 ls []) := by
  have hx := F.1
  have hb := F.2.1
  have hml := F.2.2.2.1
  have hown := F.2.2.2.2.1
  have hts := F.2.2.2.2.2.1
  have hG : ∀ x ∈ gT, x.before args s = true := fun x h => hts x (List.mem_cons_of_mem _ h)
  unfold fXX5_has_7_16_0 at hf
  refine lv_iconst (v := (2 : Int32)) hx hb dX5_has_0 (by decide) ?_
  refine lv_istore_n (lv' := [(3, .int (2 : Int32)), (0, .ref (ka K 7)), (1, .ref (ka K 16)), (2, .int x2)]) hx hb dX5_has_1 rfl hl (by decide) rfl (fun ls hl => ?_)
  exact lfix_ind (P := PXX5_has_7_16_2 p l e s m args below meth c A K) (fun k2 hk2 t o hf => wXX5_has_7_16_2 F hk2 t.1 t.2.1 t.2.2 o hf) FU _ _ hf _ _ _ (lv_sub hl [1, 2, 3, 0] rfl) hW
set_option maxHeartbeats 4000000 in
set_option maxRecDepth 100000 in
theorem mXX5_has_7_16 {l : Launch} {K : KX} {σ : XS} {x2 : Int32} {o : (Int32 × XS)} (hf : fXX5_has_7_16 (kn K) x2 σ = some o) : gw_Mz l (kD K) vwCl (tyX K) (wX K) yX5_has wsX5_has rXX5_has_7_16 [.ref (ka K 7), .ref (ka K 16), .int x2] σ o := by
  intro sz
  refine gw_body (cc := cX5_has) (maxL := 4) (yret := some .boolean) (by decide +kernel) rfl ?_ (Nat.le_of_ble_eq_true rfl)
  intro p e s m below meth c F hsz hW ls hl
  exact wXX5_has_7_16_0 F x2 σ o hf s.heap [] ls hl hW
abbrev rXX5_roomFor_7 : Room := { frames := 2, cells := 0, slots := 0, locals := 43 }
def PXX5_roomFor_7_7 (p : Program) (l : Launch) (e : Env) (s : State) (m : MethodId) (args : Array Value) (below : List Frame) (meth : Method) (c : Code) (A : Nat → Prop) (K : KX) (t : (Int32 × Int32 × XS)) (o : (Int32 × XS)) : Prop := ∀ (H : Heap) (locs : List Loc) (ls : Array Slot), lv_has ls 4 [(0, .ref (ka K 7)), (2, .int t.1), (3, .int t.2.1)] → gw_ (kD K) vwCl (tyX K) (wX K) A s t.2.2 H locs → W p l e rXX5_roomFor_7 s m args below meth c H locs 0 0 (MQ below (gw_Qi (kD K) vwCl (tyX K) (wX K) A o) args s rXX5_roomFor_7.cells rXX5_roomFor_7.slots A) (F0 m 7 ls [])
set_option maxHeartbeats 4000000 in
set_option maxRecDepth 100000 in
theorem wXX5_roomFor_7_7 {p : Program} {l : Launch} {e : Env} {s : State} {m : MethodId} {args : Array Value} {below : List Frame} {meth : Method} {c : Code} {A : Nat → Prop} {K : KX} (F : fx_ p s m args meth c cX5_roomFor 4 (some .int) RX5 wsX5_roomFor) {k7 : (Int32 × Int32 × XS) → Option (Int32 × XS)} (hk7 : ∀ t o, k7 t = some o → PXX5_roomFor_7_7 p l e s m args below meth c A K t o) (x2 : Int32) (x3 : Int32) (σ : XS) (o : (Int32 × XS)) (hf : fXX5_roomFor_7_7 (kn K) k7 x2 x3 σ = some o) (H : Heap) (locs : List Loc) (ls : Array Slot) (hl : lv_has ls 4 [(0, .ref (ka K 7)), (2, .int x2), (3, .int x3)]) (hW : gw_ (kD K) vwCl (tyX K) (wX K) A s σ H locs) : W p l e rXX5_roomFor_7 s m args below meth c H locs 0 0 (MQ below (gw_Qi (kD K) vwCl (tyX K) (wX K) A o) args s rXX5_roomFor_7.cells rXX5_roomFor_7.slots A) (F0 m 7 ls []) := by
  have hx := F.1
  have hb := F.2.1
  have hml := F.2.2.2.1
  have hown := F.2.2.2.2.1
  have hts := F.2.2.2.2.2.1
  have hG : ∀ x ∈ gT, x.before args s = true := fun x h => hts x (List.mem_cons_of_mem _ h)
  unfold fXX5_roomFor_7_7 at hf
  refine lv_iload_n hx hb dX5_roomFor_7 rfl (lv_at hl 2 rfl) ?_
  refine lv_aload_n hx hb dX5_roomFor_8 rfl (lv_at hl 0 rfl) ?_
  refine gw_get (v := .int (σ.1 7)) F inc_X5 hW 7 5 3 (aX_7 K σ) rfl (by decide) (hG _ q_1_127) (fun _ h9 => h9) rfl dX5_roomFor_9 ?_
  refine lv_icmp_ge (tgt := 38) hx hb dX5_roomFor_12 (by decide) (fun c4 => ?_) (fun c4 => ?_)
  · replace hf := (if_pos c4).symm.trans hf
    refine lv_iconst (v := (-1 : Int32)) hx hb dX5_roomFor_38 (by decide) ?_
    exact gw_reti F hW hf dX5_roomFor_39
  · replace hf := (if_neg c4).symm.trans hf
    refine lv_aload_n hx hb dX5_roomFor_15 rfl (lv_at hl 0 rfl) ?_
    refine lv_iload_n hx hb dX5_roomFor_16 rfl (lv_at hl 2 rfl) ?_
    obtain ⟨o5, h6, hf⟩ := gw_bind hf
    refine gw_Vi (As := [.int x3]) (mc' := 0) (ms' := 0) F hW (mXX5_lengthOf_7 h6) (cwV 1 hts (gT_V q_5_204 q_2_188 q_2_189 q_1_7 q_2_190) rfl rfl rfl hdX5_lengthOf ⟨Nat.le_of_ble_eq_true rfl, Nat.le_of_ble_eq_true rfl⟩) 7 5 (aX_7 K σ) rfl rfl hl.1 rfl (Nat.le_of_ble_eq_true rfl) dX5_roomFor_17 ⟨Nat.le_of_ble_eq_true rfl, Nat.le_of_ble_eq_true rfl⟩ rfl rfl (fun H locs hW => ?_)
    refine lv_aload_n hx hb dX5_roomFor_20 rfl (lv_at hl 0 rfl) ?_
    refine lv_iload_n hx hb dX5_roomFor_21 rfl (lv_at hl 2 rfl) ?_
    obtain ⟨o8, h9, hf⟩ := gw_bind hf
    refine gw_Vi (As := [.int x3]) (mc' := 0) (ms' := 0) F hW (mXX5_usedBy_7 h9) (cwV 1 hts (gT_V q_5_205 q_2_198 q_2_199 q_1_7 q_2_200) rfl rfl rfl hdX5_usedBy ⟨Nat.le_of_ble_eq_true rfl, Nat.le_of_ble_eq_true rfl⟩) 7 5 (aX_7 K o5.2) rfl rfl hl.1 rfl (Nat.le_of_ble_eq_true rfl) dX5_roomFor_22 ⟨Nat.le_of_ble_eq_true rfl, Nat.le_of_ble_eq_true rfl⟩ rfl rfl (fun H locs hW => ?_)
    refine lv_isub hx hb dX5_roomFor_25 ?_
    refine lv_iload_n hx hb dX5_roomFor_26 rfl (lv_at hl 1 rfl) ?_
    refine lv_icmp_lt (tgt := 32) hx hb dX5_roomFor_27 (by decide) (fun c11 => ?_) (fun c11 => ?_)
    · replace hf := (if_pos c11).symm.trans hf
      refine lv_iinc (v := (x3 + (1 : Int32))) (lv' := [(3, .int (x3 + (1 : Int32))), (0, .ref (ka K 7)), (2, .int x2)]) hx hb dX5_roomFor_32 hl (k := 2) rfl rfl (by decide) rfl (fun ls hl => ?_)
      refine lv_goto (tgt := 7) hx hb dX5_roomFor_35 (by decide) ?_
      exact hk7 _ _ hf _ _ _ (lv_sub hl [1, 2, 0] rfl) hW
    · replace hf := (if_neg c11).symm.trans hf
      refine lv_iload_n hx hb dX5_roomFor_30 rfl (lv_at hl 2 rfl) ?_
      exact gw_reti F hW hf dX5_roomFor_31
set_option maxHeartbeats 4000000 in
set_option maxRecDepth 100000 in
theorem wXX5_roomFor_7_0 {p : Program} {l : Launch} {e : Env} {s : State} {m : MethodId} {args : Array Value} {below : List Frame} {meth : Method} {c : Code} {A : Nat → Prop} {K : KX} (F : fx_ p s m args meth c cX5_roomFor 4 (some .int) RX5 wsX5_roomFor) (x1 : Int32) (σ : XS) (o : (Int32 × XS)) (hf : fXX5_roomFor_7_0 (kn K) x1 σ = some o) (H : Heap) (locs : List Loc) (ls : Array Slot) (hl : lv_has ls 4 [(0, .ref (ka K 7)), (1, .int x1)]) (hW : gw_ (kD K) vwCl (tyX K) (wX K) A s σ H locs) : W p l e rXX5_roomFor_7 s m args below meth c H locs 0 0 (MQ below (gw_Qi (kD K) vwCl (tyX K) (wX K) A o) args s rXX5_roomFor_7.cells rXX5_roomFor_7.slots A) (F0 m 0 ls []) := by
  have hx := F.1
  have hb := F.2.1
  have hml := F.2.2.2.1
  have hown := F.2.2.2.2.1
  have hts := F.2.2.2.2.2.1
  have hG : ∀ x ∈ gT, x.before args s = true := fun x h => hts x (List.mem_cons_of_mem _ h)
  unfold fXX5_roomFor_7_0 at hf
  refine lv_iload_n hx hb dX5_roomFor_0 rfl (lv_at hl 1 rfl) ?_
  obtain ⟨o1, h2, hf⟩ := gw_bind hf
  refine gw_Si (As := [.int x1]) (mc' := 0) (ms' := 0) F hW (mXX5_spaceFor h2) (va_cwS 1 hts (gT_S q_2_202 q_2_203 q_1_7 q_2_204) rfl rfl rfl hdX5_spaceFor.2 ⟨Nat.le_of_ble_eq_true rfl, Nat.le_of_ble_eq_true rfl⟩) rfl hl.1 rfl (Nat.le_of_ble_eq_true rfl) dX5_roomFor_1 ⟨Nat.le_of_ble_eq_true rfl, Nat.le_of_ble_eq_true rfl⟩ rfl rfl (fun H locs hW => ?_)
  refine lv_istore_n (lv' := [(2, .int o1.1), (0, .ref (ka K 7)), (1, .int x1)]) hx hb dX5_roomFor_4 rfl hl (by decide) rfl (fun ls hl => ?_)
  refine lv_iconst (v := (0 : Int32)) hx hb dX5_roomFor_5 (by decide) ?_
  refine lv_istore_n (lv' := [(3, .int (0 : Int32)), (2, .int o1.1), (0, .ref (ka K 7)), (1, .int x1)]) hx hb dX5_roomFor_6 rfl hl (by decide) rfl (fun ls hl => ?_)
  exact lfix_ind (P := PXX5_roomFor_7_7 p l e s m args below meth c A K) (fun k7 hk7 t o hf => wXX5_roomFor_7_7 F hk7 t.1 t.2.1 t.2.2 o hf) FU _ _ hf _ _ _ (lv_sub hl [2, 1, 0] rfl) hW
set_option maxHeartbeats 4000000 in
set_option maxRecDepth 100000 in
theorem mXX5_roomFor_7 {l : Launch} {K : KX} {σ : XS} {x1 : Int32} {o : (Int32 × XS)} (hf : fXX5_roomFor_7 (kn K) x1 σ = some o) : gw_Mi l (kD K) vwCl (tyX K) (wX K) yX5_roomFor wsX5_roomFor rXX5_roomFor_7 [.ref (ka K 7), .int x1] σ o := by
  intro sz
  refine gw_body (cc := cX5_roomFor) (maxL := 4) (yret := some .int) (by decide +kernel) rfl ?_ (Nat.le_of_ble_eq_true rfl)
  intro p e s m below meth c F hsz hW ls hl
  exact wXX5_roomFor_7_0 F x1 σ o hf s.heap [] ls hl hW
abbrev rXX5_split_7 : Room := { frames := 2, cells := 0, slots := 0, locals := 43 }
set_option maxHeartbeats 4000000 in
set_option maxRecDepth 100000 in
theorem wXX5_split_7_0 {p : Program} {l : Launch} {e : Env} {s : State} {m : MethodId} {args : Array Value} {below : List Frame} {meth : Method} {c : Code} {A : Nat → Prop} {K : KX} (F : fx_ p s m args meth c cX5_split 5 (some .int) RX5 wsX5_split) (x1 : Int32) (σ : XS) (o : (Int32 × XS)) (hf : fXX5_split_7_0 (kn K) x1 σ = some o) (H : Heap) (locs : List Loc) (ls : Array Slot) (hl : lv_has ls 5 [(0, .ref (ka K 7)), (1, .int x1)]) (hW : gw_ (kD K) vwCl (tyX K) (wX K) A s σ H locs) : W p l e rXX5_split_7 s m args below meth c H locs 0 0 (MQ below (gw_Qi (kD K) vwCl (tyX K) (wX K) A o) args s rXX5_split_7.cells rXX5_split_7.slots A) (F0 m 0 ls []) := by
  have hx := F.1
  have hb := F.2.1
  have hml := F.2.2.2.1
  have hown := F.2.2.2.2.1
  have hts := F.2.2.2.2.2.1
  have hG : ∀ x ∈ gT, x.before args s = true := fun x h => hts x (List.mem_cons_of_mem _ h)
  unfold fXX5_split_7_0 at hf
  refine lv_aload_n hx hb dX5_split_0 rfl (lv_at hl 0 rfl) ?_
  refine lv_iload_n hx hb dX5_split_1 rfl (lv_at hl 1 rfl) ?_
  obtain ⟨o1, h2, hf⟩ := gw_bind hf
  refine gw_Vi (As := [.int x1]) (mc' := 0) (ms' := 0) F hW (mXX5_entryAt_7 h2) (cwV 1 hts (gT_V q_2_191 q_2_184 q_2_185 q_1_7 q_2_186) rfl rfl rfl hdX5_entryAt ⟨Nat.le_of_ble_eq_true rfl, Nat.le_of_ble_eq_true rfl⟩) 7 5 (aX_7 K σ) rfl rfl hl.1 rfl (Nat.le_of_ble_eq_true rfl) dX5_split_2 ⟨Nat.le_of_ble_eq_true rfl, Nat.le_of_ble_eq_true rfl⟩ rfl rfl (fun H locs hW => ?_)
  refine lv_istore_n (lv' := [(2, .int o1.1), (0, .ref (ka K 7)), (1, .int x1)]) hx hb dX5_split_5 rfl hl (by decide) rfl (fun ls hl => ?_)
  refine lv_aload_n hx hb dX5_split_6 rfl (lv_at hl 1 rfl) ?_
  refine lv_iload_n hx hb dX5_split_7 rfl (lv_at hl 2 rfl) ?_
  obtain ⟨o4, h5, hf⟩ := gw_bind hf
  refine gw_Vi (As := [.int x1]) (mc' := 0) (ms' := 0) F hW (mXX5_usedBy_7 h5) (cwV 1 hts (gT_V q_5_205 q_2_198 q_2_199 q_1_7 q_2_200) rfl rfl rfl hdX5_usedBy ⟨Nat.le_of_ble_eq_true rfl, Nat.le_of_ble_eq_true rfl⟩) 7 5 (aX_7 K o1.2) rfl rfl hl.1 rfl (Nat.le_of_ble_eq_true rfl) dX5_split_8 ⟨Nat.le_of_ble_eq_true rfl, Nat.le_of_ble_eq_true rfl⟩ rfl rfl (fun H locs hW => ?_)
  refine lv_istore_n (lv' := [(3, .int o4.1), (2, .int o1.1), (0, .ref (ka K 7)), (1, .int x1)]) hx hb dX5_split_11 rfl hl (by decide) rfl (fun ls hl => ?_)
  refine lv_aload_n hx hb dX5_split_12 rfl (lv_at hl 2 rfl) ?_
  refine lv_iload_n hx hb dX5_split_13 rfl (lv_at hl 3 rfl) ?_
  obtain ⟨o7, h8, hf⟩ := gw_bind hf
  refine gw_Vi (As := [.int x1]) (mc' := 0) (ms' := 0) F hW (mXX5_lengthOf_7 h8) (cwV 1 hts (gT_V q_5_204 q_2_188 q_2_189 q_1_7 q_2_190) rfl rfl rfl hdX5_lengthOf ⟨Nat.le_of_ble_eq_true rfl, Nat.le_of_ble_eq_true rfl⟩) 7 5 (aX_7 K o4.2) rfl rfl hl.1 rfl (Nat.le_of_ble_eq_true rfl) dX5_split_14 ⟨Nat.le_of_ble_eq_true rfl, Nat.le_of_ble_eq_true rfl⟩ rfl rfl (fun H locs hW => ?_)
  refine lv_istore (lv' := [(4, .int o7.1), (3, .int o4.1), (2, .int o1.1), (0, .ref (ka K 7)), (1, .int x1)]) hx hb dX5_split_17 hl (by decide) rfl (fun ls hl => ?_)
  refine lv_aload_n hx hb dX5_split_19 rfl (lv_at hl 3 rfl) ?_
  refine gw_get (v := .ref (ka K 1)) F inc_X5 hW 7 5 0 (aX_7 K o7.2) rfl (by decide) (hG _ q_1_124) (fun _ h9 => h9) rfl dX5_split_20 ?_
  refine lv_iload_n hx hb dX5_split_23 rfl (lv_at hl 2 rfl) ?_
  refine lv_iconst (v := (4 : Int32)) hx hb dX5_split_24 (by decide) ?_
  refine lv_iadd hx hb dX5_split_25 ?_
  refine lv_iload_n hx hb dX5_split_26 rfl (lv_at hl 1 rfl) ?_
  obtain ⟨o10, h11, hf⟩ := gw_bind hf
  refine gw_Vv (As := [.int (o1.1 + (4 : Int32)), .int o4.1]) (mc' := 0) (ms' := 0) F hW (mXX1_put2_1 h11) (cwV 2 hts (gT_V q_5_56 q_4_160 q_4_161 q_1_3 q_4_162) rfl rfl rfl hdX1_put2 ⟨Nat.le_of_ble_eq_true rfl, Nat.le_of_ble_eq_true rfl⟩) 1 1 (aX_1 K o7.2) rfl rfl hl.1 rfl (Nat.le_of_ble_eq_true rfl) dX5_split_27 ⟨Nat.le_of_ble_eq_true rfl, Nat.le_of_ble_eq_true rfl⟩ rfl rfl (fun H locs hW => ?_)
  refine lv_aload_n hx hb dX5_split_30 rfl (lv_at hl 3 rfl) ?_
  refine gw_get (v := .ref (ka K 1)) F inc_X5 hW 7 5 0 (aX_7 K o10) rfl (by decide) (hG _ q_1_124) (fun _ h9 => h9) rfl dX5_split_31 ?_
  refine lv_iload_n hx hb dX5_split_34 rfl (lv_at hl 2 rfl) ?_
  refine lv_iload_n hx hb dX5_split_35 rfl (lv_at hl 1 rfl) ?_
  refine lv_iadd hx hb dX5_split_36 ?_
  refine lv_iconst (v := (4 : Int32)) hx hb dX5_split_37 (by decide) ?_
  refine lv_iadd hx hb dX5_split_38 ?_
  refine lv_iload hx hb dX5_split_39 (lv_at hl 0 rfl) ?_
  refine lv_iload_n hx hb dX5_split_41 rfl (lv_at hl 1 rfl) ?_
  refine lv_isub hx hb dX5_split_42 ?_
  obtain ⟨o13, h14, hf⟩ := gw_bind hf
  refine gw_Vv (As := [.int ((o1.1 + o4.1) + (4 : Int32)), .int (o7.1 - o4.1)]) (mc' := 0) (ms' := 0) F hW (mXX1_put2_1 h14) (cwV 2 hts (gT_V q_5_56 q_4_160 q_4_161 q_1_3 q_4_162) rfl rfl rfl hdX1_put2 ⟨Nat.le_of_ble_eq_true rfl, Nat.le_of_ble_eq_true rfl⟩) 1 1 (aX_1 K o10) rfl rfl hl.1 rfl (Nat.le_of_ble_eq_true rfl) dX5_split_43 ⟨Nat.le_of_ble_eq_true rfl, Nat.le_of_ble_eq_true rfl⟩ rfl rfl (fun H locs hW => ?_)
  refine lv_iload_n hx hb dX5_split_46 rfl (lv_at hl 2 rfl) ?_
  refine lv_iload_n hx hb dX5_split_47 rfl (lv_at hl 1 rfl) ?_
  refine lv_iadd hx hb dX5_split_48 ?_
  exact gw_reti F hW hf dX5_split_49
set_option maxHeartbeats 4000000 in
set_option maxRecDepth 100000 in
theorem mXX5_split_7 {l : Launch} {K : KX} {σ : XS} {x1 : Int32} {o : (Int32 × XS)} (hf : fXX5_split_7 (kn K) x1 σ = some o) : gw_Mi l (kD K) vwCl (tyX K) (wX K) yX5_split wsX5_split rXX5_split_7 [.ref (ka K 7), .int x1] σ o := by
  intro sz
  refine gw_body (cc := cX5_split) (maxL := 5) (yret := some .int) (by decide +kernel) rfl ?_ (Nat.le_of_ble_eq_true rfl)
  intro p e s m below meth c F hsz hW ls hl
  exact wXX5_split_7_0 F x1 σ o hf s.heap [] ls hl hW
abbrev rXX5_fillEntry_7_16 : Room := { frames := 3, cells := 0, slots := 0, locals := 69 }
def PXX5_fillEntry_7_16_85 (p : Program) (l : Launch) (e : Env) (s : State) (m : MethodId) (args : Array Value) (below : List Frame) (meth : Method) (c : Code) (A : Nat → Prop) (K : KX) (t : (Int32 × Int32 × Int32 × XS)) (o : XS) : Prop := ∀ (H : Heap) (locs : List Loc) (ls : Array Slot), lv_has ls 8 [(0, .ref (ka K 7)), (1, .int t.1), (4, .ref (ka K 16)), (5, .int t.2.1), (7, .int t.2.2.1)] → gw_ (kD K) vwCl (tyX K) (wX K) A s t.2.2.2 H locs → W p l e rXX5_fillEntry_7_16 s m args below meth c H locs 0 0 (MQ below (gw_Qv (kD K) vwCl (tyX K) (wX K) A o) args s rXX5_fillEntry_7_16.cells rXX5_fillEntry_7_16.slots A) (F0 m 85 ls [])
set_option maxHeartbeats 4000000 in
set_option maxRecDepth 100000 in
theorem wXX5_fillEntry_7_16_85 {p : Program} {l : Launch} {e : Env} {s : State} {m : MethodId} {args : Array Value} {below : List Frame} {meth : Method} {c : Code} {A : Nat → Prop} {K : KX} (F : fx_ p s m args meth c cX5_fillEntry 8 none RX5 wsX5_fillEntry) {k85 : (Int32 × Int32 × Int32 × XS) → Option XS} (hk85 : ∀ t o, k85 t = some o → PXX5_fillEntry_7_16_85 p l e s m args below meth c A K t o) (x1 : Int32) (x5 : Int32) (x7 : Int32) (σ : XS) (o : XS) (hf : fXX5_fillEntry_7_16_85 (kn K) k85 x1 x5 x7 σ = some o) (H : Heap) (locs : List Loc) (ls : Array Slot) (hl : lv_has ls 8 [(0, .ref (ka K 7)), (1, .int x1), (4, .ref (ka K 16)), (5, .int x5), (7, .int x7)]) (hW : gw_ (kD K) vwCl (tyX K) (wX K) A s σ H locs) : W p l e rXX5_fillEntry_7_16 s m args below meth c H locs 0 0 (MQ below (gw_Qv (kD K) vwCl (tyX K) (wX K) A o) args s rXX5_fillEntry_7_16.cells rXX5_fillEntry_7_16.slots A) (F0 m 85 ls []) := by
  have hx := F.1
  have hb := F.2.1
  have hml := F.2.2.2.1
  have hown := F.2.2.2.2.1
  have hts := F.2.2.2.2.2.1
  have hG : ∀ x ∈ gT, x.before args s = true := fun x h => hts x (List.mem_cons_of_mem _ h)
  unfold fXX5_fillEntry_7_16_85 at hf
  refine lv_iload hx hb dX5_fillEntry_85 (lv_at hl 4 rfl) ?_
  refine lv_iload hx hb dX5_fillEntry_87 (lv_at hl 3 rfl) ?_
  refine lv_icmp_ge (tgt := 119) hx hb dX5_fillEntry_89 (by decide) (fun c23 => ?_) (fun c23 => ?_)
  · replace hf := (if_pos c23).symm.trans hf
    exact gw_retv F hW hf dX5_fillEntry_119
  · replace hf := (if_neg c23).symm.trans hf
    refine lv_aload_n hx hb dX5_fillEntry_92 rfl (lv_at hl 0 rfl) ?_
    refine gw_get (v := .ref (ka K 1)) F inc_X5 hW 7 5 0 (aX_7 K σ) rfl (by decide) (hG _ q_1_124) (fun _ h9 => h9) rfl dX5_fillEntry_93 ?_
    refine lv_iload_n hx hb dX5_fillEntry_96 rfl (lv_at hl 1 rfl) ?_
    refine lv_bipush (v := (8 : Int32)) hx hb dX5_fillEntry_97 (by decide) ?_
    refine lv_iadd hx hb dX5_fillEntry_99 ?_
    refine lv_iload hx hb dX5_fillEntry_100 (lv_at hl 4 rfl) ?_
    refine lv_iadd hx hb dX5_fillEntry_102 ?_
    refine lv_aload hx hb dX5_fillEntry_103 (lv_at hl 2 rfl) ?_
    refine lv_iload hx hb dX5_fillEntry_105 (lv_at hl 4 rfl) ?_
    obtain ⟨o24, h25, hf⟩ := gw_bind hf
    refine gw_Ui (As := [.int x7]) (mc' := 0) (ms' := 0) F hW (mXX8_valueAt_16 h25) (va_cwA 1 hts (gT_U q_5_192 q_5_194 q_5_198 q_5_179 q_1_11 q_5_181) rfl rfl rfl (hW.1.2 _ xb_0) (by decide +kernel) ⟨Nat.le_of_ble_eq_true rfl, Nat.le_of_ble_eq_true rfl⟩) 16 8 (aX_16 K σ) rfl rfl hl.1 rfl (Nat.le_of_ble_eq_true rfl) dX5_fillEntry_107 ⟨Nat.le_of_ble_eq_true rfl, Nat.le_of_ble_eq_true rfl⟩ rfl rfl (fun H locs hW => ?_)
    obtain ⟨o27, h28, hf⟩ := gw_bind hf
    refine gw_Vv (As := [.int ((x1 + (8 : Int32)) + x7), .int o24.1]) (mc' := 0) (ms' := 0) F hW (mXX1_put_1 h28) (cwV 2 hts (gT_V q_5_57 q_4_219 q_4_220 q_1_3 q_4_221) rfl rfl rfl hdX1_put ⟨Nat.le_of_ble_eq_true rfl, Nat.le_of_ble_eq_true rfl⟩) 1 1 (aX_1 K o24.2) rfl rfl hl.1 rfl (Nat.le_of_ble_eq_true rfl) dX5_fillEntry_110 ⟨Nat.le_of_ble_eq_true rfl, Nat.le_of_ble_eq_true rfl⟩ rfl rfl (fun H locs hW => ?_)
    refine lv_iinc (v := (x7 + (1 : Int32))) (lv' := [(7, .int (x7 + (1 : Int32))), (0, .ref (ka K 7)), (1, .int x1), (4, .ref (ka K 16)), (5, .int x5)]) hx hb dX5_fillEntry_113 hl (k := 4) rfl rfl (by decide) rfl (fun ls hl => ?_)
    refine lv_goto (tgt := 85) hx hb dX5_fillEntry_116 (by decide) ?_
    exact hk85 _ _ hf _ _ _ (lv_sub hl [1, 2, 3, 4, 0] rfl) hW
set_option maxHeartbeats 4000000 in
set_option maxRecDepth 100000 in
theorem wXX5_fillEntry_7_16_79 {p : Program} {l : Launch} {e : Env} {s : State} {m : MethodId} {args : Array Value} {below : List Frame} {meth : Method} {c : Code} {A : Nat → Prop} {K : KX} (F : fx_ p s m args meth c cX5_fillEntry 8 none RX5 wsX5_fillEntry) (x1 : Int32) (x5 : Int32) (y0 : Int32) (y1 : Int32) (σ : XS) (o : XS) (hf : fXX5_fillEntry_7_16_79 (kn K) x1 x5 y0 y1 σ = some o) (H : Heap) (locs : List Loc) (ls : Array Slot) (hl : lv_has ls 8 [(0, .ref (ka K 7)), (1, .int x1), (4, .ref (ka K 16)), (5, .int x5)]) (hW : gw_ (kD K) vwCl (tyX K) (wX K) A s σ H locs) : W p l e rXX5_fillEntry_7_16 s m args below meth c H locs 0 0 (MQ below (gw_Qv (kD K) vwCl (tyX K) (wX K) A o) args s rXX5_fillEntry_7_16.cells rXX5_fillEntry_7_16.slots A) (F0 m 79 ls [.int y0, .int y1, .ref (ka K 1)]) := by
  have hx := F.1
  have hb := F.2.1
  have hml := F.2.2.2.1
  have hown := F.2.2.2.2.1
  have hts := F.2.2.2.2.2.1
  have hG : ∀ x ∈ gT, x.before args s = true := fun x h => hts x (List.mem_cons_of_mem _ h)
  unfold fXX5_fillEntry_7_16_79 at hf
  obtain ⟨o20, h21, hf⟩ := gw_bind hf
  refine gw_Vv (As := [.int y1, .int y0]) (mc' := 0) (ms' := 0) F hW (mXX1_put_1 h21) (cwV 2 hts (gT_V q_5_57 q_4_219 q_4_220 q_1_3 q_4_221) rfl rfl rfl hdX1_put ⟨Nat.le_of_ble_eq_true rfl, Nat.le_of_ble_eq_true rfl⟩) 1 1 (aX_1 K σ) rfl rfl hl.1 rfl (Nat.le_of_ble_eq_true rfl) dX5_fillEntry_79 ⟨Nat.le_of_ble_eq_true rfl, Nat.le_of_ble_eq_true rfl⟩ rfl rfl (fun H locs hW => ?_)
  refine lv_iconst (v := (0 : Int32)) hx hb dX5_fillEntry_82 (by decide) ?_
  refine lv_istore (lv' := [(7, .int (0 : Int32)), (0, .ref (ka K 7)), (1, .int x1), (4, .ref (ka K 16)), (5, .int x5)]) hx hb dX5_fillEntry_83 hl (by decide) rfl (fun ls hl => ?_)
  exact lfix_ind (P := PXX5_fillEntry_7_16_85 p l e s m args below meth c A K) (fun k85 hk85 t o hf => wXX5_fillEntry_7_16_85 F hk85 t.1 t.2.1 t.2.2.1 t.2.2.2 o hf) FU _ _ hf _ _ _ (lv_sub hl [1, 2, 3, 4, 0] rfl) hW
set_option maxHeartbeats 4000000 in
set_option maxRecDepth 100000 in
theorem wXX5_fillEntry_7_16_0 {p : Program} {l : Launch} {e : Env} {s : State} {m : MethodId} {args : Array Value} {below : List Frame} {meth : Method} {c : Code} {A : Nat → Prop} {K : KX} (F : fx_ p s m args meth c cX5_fillEntry 8 none RX5 wsX5_fillEntry) (x1 : Int32) (x2 : Int32) (x3 : Int32) (x5 : Int32) (σ : XS) (o : XS) (hf : fXX5_fillEntry_7_16_0 (kn K) x1 x2 x3 x5 σ = some o) (H : Heap) (locs : List Loc) (ls : Array Slot) (hl : lv_has ls 8 [(0, .ref (ka K 7)), (1, .int x1), (2, .int x2), (3, .int x3), (4, .ref (ka K 16)), (5, .int x5)]) (hW : gw_ (kD K) vwCl (tyX K) (wX K) A s σ H locs) : W p l e rXX5_fillEntry_7_16 s m args below meth c H locs 0 0 (MQ below (gw_Qv (kD K) vwCl (tyX K) (wX K) A o) args s rXX5_fillEntry_7_16.cells rXX5_fillEntry_7_16.slots A) (F0 m 0 ls []) := by
  have hx := F.1
  have hb := F.2.1
  have hml := F.2.2.2.1
  have hown := F.2.2.2.2.1
  have hts := F.2.2.2.2.2.1
  have hG : ∀ x ∈ gT, x.before args s = true := fun x h => hts x (List.mem_cons_of_mem _ h)
  unfold fXX5_fillEntry_7_16_0 at hf
  refine lv_aload_n hx hb dX5_fillEntry_0 rfl (lv_at hl 0 rfl) ?_
  refine gw_get (v := .ref (ka K 1)) F inc_X5 hW 7 5 0 (aX_7 K σ) rfl (by decide) (hG _ q_1_124) (fun _ h9 => h9) rfl dX5_fillEntry_1 ?_
  refine lv_iload_n hx hb dX5_fillEntry_4 rfl (lv_at hl 1 rfl) ?_
  refine lv_iconst (v := (4 : Int32)) hx hb dX5_fillEntry_5 (by decide) ?_
  refine lv_iadd hx hb dX5_fillEntry_6 ?_
  obtain ⟨o1, h2, hf⟩ := gw_bind hf
  refine gw_Vi (As := [.int (x1 + (4 : Int32))]) (mc' := 0) (ms' := 0) F hW (mXX1_get2_1 h2) (cwV 1 hts (gT_V q_2_168 q_2_110 q_2_111 q_1_3 q_2_112) rfl rfl rfl hdX1_get2 ⟨Nat.le_of_ble_eq_true rfl, Nat.le_of_ble_eq_true rfl⟩) 1 1 (aX_1 K σ) rfl rfl hl.1 rfl (Nat.le_of_ble_eq_true rfl) dX5_fillEntry_7 ⟨Nat.le_of_ble_eq_true rfl, Nat.le_of_ble_eq_true rfl⟩ rfl rfl (fun H locs hW => ?_)
  refine lv_istore (lv' := [(6, .int o1.1), (0, .ref (ka K 7)), (1, .int x1), (2, .int x2), (3, .int x3), (4, .ref (ka K 16)), (5, .int x5)]) hx hb dX5_fillEntry_10 hl (by decide) rfl (fun ls hl => ?_)
  refine lv_aload_n hx hb dX5_fillEntry_12 rfl (lv_at hl 1 rfl) ?_
  refine gw_get (v := .ref (ka K 1)) F inc_X5 hW 7 5 0 (aX_7 K o1.2) rfl (by decide) (hG _ q_1_124) (fun _ h9 => h9) rfl dX5_fillEntry_13 ?_
  refine lv_iload_n hx hb dX5_fillEntry_16 rfl (lv_at hl 2 rfl) ?_
  refine lv_iload_n hx hb dX5_fillEntry_17 rfl (lv_at hl 2 rfl) ?_
  refine lv_iload hx hb dX5_fillEntry_18 (lv_at hl 6 rfl) ?_
  obtain ⟨o4, h5, hf⟩ := gw_bind hf
  refine gw_Si (As := [.int x5]) (mc' := 0) (ms' := 0) F hW (mXX5_spaceFor h5) (va_cwS 1 hts (gT_S q_2_202 q_2_203 q_1_7 q_2_204) rfl rfl rfl hdX5_spaceFor.2 ⟨Nat.le_of_ble_eq_true rfl, Nat.le_of_ble_eq_true rfl⟩) rfl hl.1 rfl (Nat.le_of_ble_eq_true rfl) dX5_fillEntry_20 ⟨Nat.le_of_ble_eq_true rfl, Nat.le_of_ble_eq_true rfl⟩ rfl rfl (fun H locs hW => ?_)
  refine lv_iadd hx hb dX5_fillEntry_23 ?_
  refine lv_iconst (v := (0 : Int32)) hx hb dX5_fillEntry_24 (by decide) ?_
  obtain ⟨o7, h8, hf⟩ := gw_bind hf
  refine gw_Vv (As := [.int x1, .int (x1 + o4.1), .int (0 : Int32)]) (mc' := 0) (ms' := 0) F hW (mXX1_fill_1 h8) (cwV 3 hts (gT_V q_5_239 q_3_42 q_3_43 q_1_3 q_3_44) rfl rfl rfl hdX1_fill ⟨Nat.le_of_ble_eq_true rfl, Nat.le_of_ble_eq_true rfl⟩) 1 1 (aX_1 K o4.2) rfl rfl hl.1 rfl (Nat.le_of_ble_eq_true rfl) dX5_fillEntry_25 ⟨Nat.le_of_ble_eq_true rfl, Nat.le_of_ble_eq_true rfl⟩ rfl rfl (fun H locs hW => ?_)
  refine lv_aload_n hx hb dX5_fillEntry_28 rfl (lv_at hl 1 rfl) ?_
  refine gw_get (v := .ref (ka K 1)) F inc_X5 hW 7 5 0 (aX_7 K o7) rfl (by decide) (hG _ q_1_124) (fun _ h9 => h9) rfl dX5_fillEntry_29 ?_
  refine lv_iload_n hx hb dX5_fillEntry_32 rfl (lv_at hl 2 rfl) ?_
  refine lv_iload_n hx hb dX5_fillEntry_33 rfl (lv_at hl 3 rfl) ?_
  obtain ⟨o10, h11, hf⟩ := gw_bind hf
  refine gw_Vv (As := [.int x1, .int x2]) (mc' := 0) (ms' := 0) F hW (mXX1_put4_1 h11) (cwV 2 hts (gT_V q_5_55 q_4_156 q_4_157 q_1_3 q_4_158) rfl rfl rfl hdX1_put4 ⟨Nat.le_of_ble_eq_true rfl, Nat.le_of_ble_eq_true rfl⟩) 1 1 (aX_1 K o7) rfl rfl hl.1 rfl (Nat.le_of_ble_eq_true rfl) dX5_fillEntry_34 ⟨Nat.le_of_ble_eq_true rfl, Nat.le_of_ble_eq_true rfl⟩ rfl rfl (fun H locs hW => ?_)
  refine lv_aload_n hx hb dX5_fillEntry_37 rfl (lv_at hl 1 rfl) ?_
  refine gw_get (v := .ref (ka K 1)) F inc_X5 hW 7 5 0 (aX_7 K o10) rfl (by decide) (hG _ q_1_124) (fun _ h9 => h9) rfl dX5_fillEntry_38 ?_
  refine lv_iload_n hx hb dX5_fillEntry_41 rfl (lv_at hl 2 rfl) ?_
  refine lv_iconst (v := (4 : Int32)) hx hb dX5_fillEntry_42 (by decide) ?_
  refine lv_iadd hx hb dX5_fillEntry_43 ?_
  refine lv_iload hx hb dX5_fillEntry_44 (lv_at hl 0 rfl) ?_
  obtain ⟨o13, h14, hf⟩ := gw_bind hf
  refine gw_Vv (As := [.int (x1 + (4 : Int32)), .int o1.1]) (mc' := 0) (ms' := 0) F hW (mXX1_put2_1 h14) (cwV 2 hts (gT_V q_5_56 q_4_160 q_4_161 q_1_3 q_4_162) rfl rfl rfl hdX1_put2 ⟨Nat.le_of_ble_eq_true rfl, Nat.le_of_ble_eq_true rfl⟩) 1 1 (aX_1 K o10) rfl rfl hl.1 rfl (Nat.le_of_ble_eq_true rfl) dX5_fillEntry_46 ⟨Nat.le_of_ble_eq_true rfl, Nat.le_of_ble_eq_true rfl⟩ rfl rfl (fun H locs hW => ?_)
  refine lv_aload_n hx hb dX5_fillEntry_49 rfl (lv_at hl 1 rfl) ?_
  refine gw_get (v := .ref (ka K 1)) F inc_X5 hW 7 5 0 (aX_7 K o13) rfl (by decide) (hG _ q_1_124) (fun _ h9 => h9) rfl dX5_fillEntry_50 ?_
  refine lv_iload_n hx hb dX5_fillEntry_53 rfl (lv_at hl 2 rfl) ?_
  refine lv_bipush (v := (6 : Int32)) hx hb dX5_fillEntry_54 (by decide) ?_
  refine lv_iadd hx hb dX5_fillEntry_56 ?_
  refine lv_iload hx hb dX5_fillEntry_57 (lv_at hl 6 rfl) ?_
  obtain ⟨o16, h17, hf⟩ := gw_bind hf
  refine gw_Vv (As := [.int (x1 + (6 : Int32)), .int x5]) (mc' := 0) (ms' := 0) F hW (mXX1_put_1 h17) (cwV 2 hts (gT_V q_5_57 q_4_219 q_4_220 q_1_3 q_4_221) rfl rfl rfl hdX1_put ⟨Nat.le_of_ble_eq_true rfl, Nat.le_of_ble_eq_true rfl⟩) 1 1 (aX_1 K o13) rfl rfl hl.1 rfl (Nat.le_of_ble_eq_true rfl) dX5_fillEntry_59 ⟨Nat.le_of_ble_eq_true rfl, Nat.le_of_ble_eq_true rfl⟩ rfl rfl (fun H locs hW => ?_)
  refine lv_aload_n hx hb dX5_fillEntry_62 rfl (lv_at hl 1 rfl) ?_
  refine gw_get (v := .ref (ka K 1)) F inc_X5 hW 7 5 0 (aX_7 K o16) rfl (by decide) (hG _ q_1_124) (fun _ h9 => h9) rfl dX5_fillEntry_63 ?_
  refine lv_iload_n hx hb dX5_fillEntry_66 rfl (lv_at hl 2 rfl) ?_
  refine lv_bipush (v := (7 : Int32)) hx hb dX5_fillEntry_67 (by decide) ?_
  refine lv_iadd hx hb dX5_fillEntry_69 ?_
  refine lv_iload_n hx hb dX5_fillEntry_70 rfl (lv_at hl 4 rfl) ?_
  refine lv_if_eq (tgt := 78) hx hb dX5_fillEntry_71 (by decide) (fun c19 => ?_) (fun c19 => ?_)
  · replace hf := (if_pos c19).symm.trans hf
    refine lv_iconst (v := (1 : Int32)) hx hb dX5_fillEntry_78 (by decide) ?_
    exact wXX5_fillEntry_7_16_79 F x1 x5 (1 : Int32) (x1 + (7 : Int32)) _ _ hf _ _ _ (lv_sub hl [1, 2, 5, 6] rfl) hW
  · replace hf := (if_neg c19).symm.trans hf
    refine lv_iconst (v := (2 : Int32)) hx hb dX5_fillEntry_74 (by decide) ?_
    refine lv_goto (tgt := 79) hx hb dX5_fillEntry_75 (by decide) ?_
    exact wXX5_fillEntry_7_16_79 F x1 x5 (2 : Int32) (x1 + (7 : Int32)) _ _ hf _ _ _ (lv_sub hl [1, 2, 5, 6] rfl) hW
set_option maxHeartbeats 4000000 in
set_option maxRecDepth 100000 in
theorem mXX5_fillEntry_7_16 {l : Launch} {K : KX} {σ : XS} {x1 : Int32} {x2 : Int32} {x3 : Int32} {x5 : Int32} {o : XS} (hf : fXX5_fillEntry_7_16 (kn K) x1 x2 x3 x5 σ = some o) : gw_Mv l (kD K) vwCl (tyX K) (wX K) yX5_fillEntry wsX5_fillEntry rXX5_fillEntry_7_16 [.ref (ka K 7), .int x1, .int x2, .int x3, .ref (ka K 16), .int x5] σ o := by
  intro sz
  refine gw_body (cc := cX5_fillEntry) (maxL := 8) (yret := none) (by decide +kernel) rfl ?_ (Nat.le_of_ble_eq_true rfl)
  intro p e s m below meth c F hsz hW ls hl
  exact wXX5_fillEntry_7_16_0 F x1 x2 x3 x5 σ o hf s.heap [] ls hl hW
abbrev rXX5_numberOf_7 : Room := { frames := 2, cells := 0, slots := 0, locals := 42 }
def PXX5_numberOf_7_4 (p : Program) (l : Launch) (e : Env) (s : State) (m : MethodId) (args : Array Value) (below : List Frame) (meth : Method) (c : Code) (A : Nat → Prop) (K : KX) (t : (Int32 × Int32 × Int32 × XS)) (o : (Int32 × XS)) : Prop := ∀ (H : Heap) (locs : List Loc) (ls : Array Slot), lv_has ls 4 [(0, .ref (ka K 7)), (1, .int t.1), (2, .int t.2.1), (3, .int t.2.2.1)] → gw_ (kD K) vwCl (tyX K) (wX K) A s t.2.2.2 H locs → W p l e rXX5_numberOf_7 s m args below meth c H locs 0 0 (MQ below (gw_Qi (kD K) vwCl (tyX K) (wX K) A o) args s rXX5_numberOf_7.cells rXX5_numberOf_7.slots A) (F0 m 4 ls [])
set_option maxHeartbeats 4000000 in
set_option maxRecDepth 100000 in
theorem wXX5_numberOf_7_34 {p : Program} {l : Launch} {e : Env} {s : State} {m : MethodId} {args : Array Value} {below : List Frame} {meth : Method} {c : Code} {A : Nat → Prop} {K : KX} (F : fx_ p s m args meth c cX5_numberOf 4 (some .int) RX5 wsX5_numberOf) {k4 : (Int32 × Int32 × Int32 × XS) → Option (Int32 × XS)} (hk4 : ∀ t o, k4 t = some o → PXX5_numberOf_7_4 p l e s m args below meth c A K t o) (x1 : Int32) (x2 : Int32) (x3 : Int32) (σ : XS) (o : (Int32 × XS)) (hf : fXX5_numberOf_7_34 (kn K) k4 x1 x2 x3 σ = some o) (H : Heap) (locs : List Loc) (ls : Array Slot) (hl : lv_has ls 4 [(0, .ref (ka K 7)), (1, .int x1), (2, .int x2), (3, .int x3)]) (hW : gw_ (kD K) vwCl (tyX K) (wX K) A s σ H locs) : W p l e rXX5_numberOf_7 s m args below meth c H locs 0 0 (MQ below (gw_Qi (kD K) vwCl (tyX K) (wX K) A o) args s rXX5_numberOf_7.cells rXX5_numberOf_7.slots A) (F0 m 34 ls []) := by
  have hx := F.1
  have hb := F.2.1
  have hml := F.2.2.2.1
  have hown := F.2.2.2.2.1
  have hts := F.2.2.2.2.2.1
  have hG : ∀ x ∈ gT, x.before args s = true := fun x h => hts x (List.mem_cons_of_mem _ h)
  unfold fXX5_numberOf_7_34 at hf
  refine lv_iinc (v := (x3 + (1 : Int32))) (lv' := [(3, .int (x3 + (1 : Int32))), (0, .ref (ka K 7)), (1, .int x1), (2, .int x2)]) hx hb dX5_numberOf_34 hl (k := 3) rfl rfl (by decide) rfl (fun ls hl => ?_)
  refine lv_goto (tgt := 4) hx hb dX5_numberOf_37 (by decide) ?_
  exact hk4 _ _ hf _ _ _ (lv_sub hl [1, 2, 3, 0] rfl) hW
set_option maxHeartbeats 4000000 in
set_option maxRecDepth 100000 in
theorem wXX5_numberOf_7_4 {p : Program} {l : Launch} {e : Env} {s : State} {m : MethodId} {args : Array Value} {below : List Frame} {meth : Method} {c : Code} {A : Nat → Prop} {K : KX} (F : fx_ p s m args meth c cX5_numberOf 4 (some .int) RX5 wsX5_numberOf) {k4 : (Int32 × Int32 × Int32 × XS) → Option (Int32 × XS)} (hk4 : ∀ t o, k4 t = some o → PXX5_numberOf_7_4 p l e s m args below meth c A K t o) (x1 : Int32) (x2 : Int32) (x3 : Int32) (σ : XS) (o : (Int32 × XS)) (hf : fXX5_numberOf_7_4 (kn K) k4 x1 x2 x3 σ = some o) (H : Heap) (locs : List Loc) (ls : Array Slot) (hl : lv_has ls 4 [(0, .ref (ka K 7)), (1, .int x1), (2, .int x2), (3, .int x3)]) (hW : gw_ (kD K) vwCl (tyX K) (wX K) A s σ H locs) : W p l e rXX5_numberOf_7 s m args below meth c H locs 0 0 (MQ below (gw_Qi (kD K) vwCl (tyX K) (wX K) A o) args s rXX5_numberOf_7.cells rXX5_numberOf_7.slots A) (F0 m 4 ls []) := by
  have hx := F.1
  have hb := F.2.1
  have hml := F.2.2.2.1
  have hown := F.2.2.2.2.1
  have hts := F.2.2.2.2.2.1
  have hG : ∀ x ∈ gT, x.before args s = true := fun x h => hts x (List.mem_cons_of_mem _ h)
  unfold fXX5_numberOf_7_4 at hf
  refine lv_iload_n hx hb dX5_numberOf_4 rfl (lv_at hl 3 rfl) ?_
  refine lv_aload_n hx hb dX5_numberOf_5 rfl (lv_at hl 0 rfl) ?_
  refine gw_get (v := .int (σ.1 7)) F inc_X5 hW 7 5 3 (aX_7 K σ) rfl (by decide) (hG _ q_1_127) (fun _ h9 => h9) rfl dX5_numberOf_6 ?_
  refine lv_icmp_ge (tgt := 40) hx hb dX5_numberOf_9 (by decide) (fun c1 => ?_) (fun c1 => ?_)
  · replace hf := (if_pos c1).symm.trans hf
    refine lv_iconst (v := (-1 : Int32)) hx hb dX5_numberOf_40 (by decide) ?_
    exact gw_reti F hW hf dX5_numberOf_41
  · replace hf := (if_neg c1).symm.trans hf
    refine lv_aload_n hx hb dX5_numberOf_12 rfl (lv_at hl 0 rfl) ?_
    refine lv_iload_n hx hb dX5_numberOf_13 rfl (lv_at hl 3 rfl) ?_
    obtain ⟨o2, h3, hf⟩ := gw_bind hf
    refine gw_Vi (As := [.int x3]) (mc' := 0) (ms' := 0) F hW (mXX5_entryAt_7 h3) (cwV 1 hts (gT_V q_2_191 q_2_184 q_2_185 q_1_7 q_2_186) rfl rfl rfl hdX5_entryAt ⟨Nat.le_of_ble_eq_true rfl, Nat.le_of_ble_eq_true rfl⟩) 7 5 (aX_7 K σ) rfl rfl hl.1 rfl (Nat.le_of_ble_eq_true rfl) dX5_numberOf_14 ⟨Nat.le_of_ble_eq_true rfl, Nat.le_of_ble_eq_true rfl⟩ rfl rfl (fun H locs hW => ?_)
    refine lv_iload_n hx hb dX5_numberOf_17 rfl (lv_at hl 1 rfl) ?_
    refine lv_icmp_ne (tgt := 23) hx hb dX5_numberOf_18 (by decide) (fun c5 => ?_) (fun c5 => ?_)
    · replace hf := (if_neg c5).symm.trans hf
      refine lv_aload_n hx hb dX5_numberOf_23 rfl (lv_at hl 0 rfl) ?_
      refine lv_iload_n hx hb dX5_numberOf_24 rfl (lv_at hl 3 rfl) ?_
      obtain ⟨o6, h7, hf⟩ := gw_bind hf
      refine gw_Vi (As := [.int x3]) (mc' := 0) (ms' := 0) F hW (mXX5_inodeOf_7 h7) (cwV 1 hts (gT_V q_2_218 q_2_193 q_2_194 q_1_7 q_2_195) rfl rfl rfl hdX5_inodeOf ⟨Nat.le_of_ble_eq_true rfl, Nat.le_of_ble_eq_true rfl⟩) 7 5 (aX_7 K o2.2) rfl rfl hl.1 rfl (Nat.le_of_ble_eq_true rfl) dX5_numberOf_25 ⟨Nat.le_of_ble_eq_true rfl, Nat.le_of_ble_eq_true rfl⟩ rfl rfl (fun H locs hW => ?_)
      refine lv_if_eq (tgt := 34) hx hb dX5_numberOf_28 (by decide) (fun c9 => ?_) (fun c9 => ?_)
      · replace hf := (if_pos c9).symm.trans hf
        exact wXX5_numberOf_7_34 F hk4 x1 x2 x3 _ _ hf _ _ _ (lv_sub hl [0, 1, 2, 3] rfl) hW
      · replace hf := (if_neg c9).symm.trans hf
        refine lv_iinc (v := (x2 + (1 : Int32))) (lv' := [(2, .int (x2 + (1 : Int32))), (0, .ref (ka K 7)), (1, .int x1), (3, .int x3)]) hx hb dX5_numberOf_31 hl (k := 2) rfl rfl (by decide) rfl (fun ls hl => ?_)
        exact wXX5_numberOf_7_34 F hk4 x1 (x2 + (1 : Int32)) x3 _ _ hf _ _ _ (lv_sub hl [1, 2, 0, 3] rfl) hW
    · replace hf := (if_pos c5).symm.trans hf
      refine lv_iload_n hx hb dX5_numberOf_21 rfl (lv_at hl 2 rfl) ?_
      exact gw_reti F hW hf dX5_numberOf_22
set_option maxHeartbeats 4000000 in
set_option maxRecDepth 100000 in
theorem wXX5_numberOf_7_0 {p : Program} {l : Launch} {e : Env} {s : State} {m : MethodId} {args : Array Value} {below : List Frame} {meth : Method} {c : Code} {A : Nat → Prop} {K : KX} (F : fx_ p s m args meth c cX5_numberOf 4 (some .int) RX5 wsX5_numberOf) (x1 : Int32) (σ : XS) (o : (Int32 × XS)) (hf : fXX5_numberOf_7_0 (kn K) x1 σ = some o) (H : Heap) (locs : List Loc) (ls : Array Slot) (hl : lv_has ls 4 [(0, .ref (ka K 7)), (1, .int x1)]) (hW : gw_ (kD K) vwCl (tyX K) (wX K) A s σ H locs) : W p l e rXX5_numberOf_7 s m args below meth c H locs 0 0 (MQ below (gw_Qi (kD K) vwCl (tyX K) (wX K) A o) args s rXX5_numberOf_7.cells rXX5_numberOf_7.slots A) (F0 m 0 ls []) := by
  have hx := F.1
  have hb := F.2.1
  have hml := F.2.2.2.1
  have hown := F.2.2.2.2.1
  have hts := F.2.2.2.2.2.1
  have hG : ∀ x ∈ gT, x.before args s = true := fun x h => hts x (List.mem_cons_of_mem _ h)
  unfold fXX5_numberOf_7_0 at hf
  refine lv_iconst (v := (0 : Int32)) hx hb dX5_numberOf_0 (by decide) ?_
  refine lv_istore_n (lv' := [(2, .int (0 : Int32)), (0, .ref (ka K 7)), (1, .int x1)]) hx hb dX5_numberOf_1 rfl hl (by decide) rfl (fun ls hl => ?_)
  refine lv_iconst (v := (2 : Int32)) hx hb dX5_numberOf_2 (by decide) ?_
  refine lv_istore_n (lv' := [(3, .int (2 : Int32)), (2, .int (0 : Int32)), (0, .ref (ka K 7)), (1, .int x1)]) hx hb dX5_numberOf_3 rfl hl (by decide) rfl (fun ls hl => ?_)
  exact lfix_ind (P := PXX5_numberOf_7_4 p l e s m args below meth c A K) (fun k4 hk4 t o hf => wXX5_numberOf_7_4 F hk4 t.1 t.2.1 t.2.2.1 t.2.2.2 o hf) FU _ _ hf _ _ _ (lv_sub hl [2, 3, 1, 0] rfl) hW
set_option maxHeartbeats 4000000 in
set_option maxRecDepth 100000 in
theorem mXX5_numberOf_7 {l : Launch} {K : KX} {σ : XS} {x1 : Int32} {o : (Int32 × XS)} (hf : fXX5_numberOf_7 (kn K) x1 σ = some o) : gw_Mi l (kD K) vwCl (tyX K) (wX K) yX5_numberOf wsX5_numberOf rXX5_numberOf_7 [.ref (ka K 7), .int x1] σ o := by
  intro sz
  refine gw_body (cc := cX5_numberOf) (maxL := 4) (yret := some .int) (by decide +kernel) rfl ?_ (Nat.le_of_ble_eq_true rfl)
  intro p e s m below meth c F hsz hW ls hl
  exact wXX5_numberOf_7_0 F x1 σ o hf s.heap [] ls hl hW
abbrev rXX4_addLinks_6 : Room := { frames := 1, cells := 0, slots := 0, locals := 22 }
set_option maxHeartbeats 4000000 in
set_option maxRecDepth 100000 in
theorem wXX4_addLinks_6_0 {p : Program} {l : Launch} {e : Env} {s : State} {m : MethodId} {args : Array Value} {below : List Frame} {meth : Method} {c : Code} {A : Nat → Prop} {K : KX} (F : fx_ p s m args meth c cX4_addLinks 4 none RX4 wsX4_addLinks) (x1 : Int32) (x2 : Int32) (σ : XS) (o : XS) (hf : fXX4_addLinks_6_0 (kn K) x1 x2 σ = some o) (H : Heap) (locs : List Loc) (ls : Array Slot) (hl : lv_has ls 4 [(0, .ref (ka K 6)), (1, .int x1), (2, .int x2)]) (hW : gw_ (kD K) vwCl (tyX K) (wX K) A s σ H locs) : W p l e rXX4_addLinks_6 s m args below meth c H locs 0 0 (MQ below (gw_Qv (kD K) vwCl (tyX K) (wX K) A o) args s rXX4_addLinks_6.cells rXX4_addLinks_6.slots A) (F0 m 0 ls []) := by
  have hx := F.1
  have hb := F.2.1
  have hml := F.2.2.2.1
  have hown := F.2.2.2.2.1
  have hts := F.2.2.2.2.2.1
  have hG : ∀ x ∈ gT, x.before args s = true := fun x h => hts x (List.mem_cons_of_mem _ h)
  unfold fXX4_addLinks_6_0 at hf
  refine lv_aload_n hx hb dX4_addLinks_0 rfl (lv_at hl 0 rfl) ?_
  refine gw_get (v := .ref (ka K 3)) F inc_X4 hW 6 4 1 (aX_6 K σ) rfl (by decide) (hG _ q_1_109) (fun _ h9 => h9) rfl dX4_addLinks_1 ?_
  refine lv_iload_n hx hb dX4_addLinks_4 rfl (lv_at hl 1 rfl) ?_
  obtain ⟨o1, h2, hf⟩ := gw_bind hf
  refine gw_Vi (As := [.int x1]) (mc' := 0) (ms' := 0) F hW (mXX2_inodeAt_3 h2) (cwV 1 hts (gT_V q_2_147 q_2_101 q_2_102 q_1_4 q_2_103) rfl rfl rfl hdX2_inodeAt ⟨Nat.le_of_ble_eq_true rfl, Nat.le_of_ble_eq_true rfl⟩) 3 2 (aX_3 K σ) rfl rfl hl.1 rfl (Nat.le_of_ble_eq_true rfl) dX4_addLinks_5 ⟨Nat.le_of_ble_eq_true rfl, Nat.le_of_ble_eq_true rfl⟩ rfl rfl (fun H locs hW => ?_)
  refine lv_bipush (v := (26 : Int32)) hx hb dX4_addLinks_8 (by decide) ?_
  refine lv_iadd hx hb dX4_addLinks_10 ?_
  refine lv_istore_n (lv' := [(3, .int (o1.1 + (26 : Int32))), (0, .ref (ka K 6)), (1, .int x1), (2, .int x2)]) hx hb dX4_addLinks_11 rfl hl (by decide) rfl (fun ls hl => ?_)
  refine lv_aload_n hx hb dX4_addLinks_12 rfl (lv_at hl 1 rfl) ?_
  refine gw_get (v := .ref (ka K 1)) F inc_X4 hW 6 4 0 (aX_6 K o1.2) rfl (by decide) (hG _ q_1_108) (fun _ h9 => h9) rfl dX4_addLinks_13 ?_
  refine lv_iload_n hx hb dX4_addLinks_16 rfl (lv_at hl 0 rfl) ?_
  refine lv_aload_n hx hb dX4_addLinks_17 rfl (lv_at hl 1 rfl) ?_
  refine gw_get (v := .ref (ka K 1)) F inc_X4 hW 6 4 0 (aX_6 K o1.2) rfl (by decide) (hG _ q_1_108) (fun _ h9 => h9) rfl dX4_addLinks_18 ?_
  refine lv_iload_n hx hb dX4_addLinks_21 rfl (lv_at hl 0 rfl) ?_
  obtain ⟨o4, h5, hf⟩ := gw_bind hf
  refine gw_Vi (As := [.int (o1.1 + (26 : Int32))]) (mc' := 0) (ms' := 0) F hW (mXX1_get2_1 h5) (cwV 1 hts (gT_V q_2_148 q_2_110 q_2_111 q_1_3 q_2_112) rfl rfl rfl hdX1_get2 ⟨Nat.le_of_ble_eq_true rfl, Nat.le_of_ble_eq_true rfl⟩) 1 1 (aX_1 K o1.2) rfl rfl hl.1 rfl (Nat.le_of_ble_eq_true rfl) dX4_addLinks_22 ⟨Nat.le_of_ble_eq_true rfl, Nat.le_of_ble_eq_true rfl⟩ rfl rfl (fun H locs hW => ?_)
  refine lv_iload_n hx hb dX4_addLinks_25 rfl (lv_at hl 3 rfl) ?_
  refine lv_iadd hx hb dX4_addLinks_26 ?_
  obtain ⟨o7, h8, hf⟩ := gw_bind hf
  refine gw_Vv (As := [.int (o1.1 + (26 : Int32)), .int (o4.1 + x2)]) (mc' := 0) (ms' := 0) F hW (mXX1_put2_1 h8) (cwV 2 hts (gT_V q_5_12 q_4_160 q_4_161 q_1_3 q_4_162) rfl rfl rfl hdX1_put2 ⟨Nat.le_of_ble_eq_true rfl, Nat.le_of_ble_eq_true rfl⟩) 1 1 (aX_1 K o4.2) rfl rfl hl.1 rfl (Nat.le_of_ble_eq_true rfl) dX4_addLinks_27 ⟨Nat.le_of_ble_eq_true rfl, Nat.le_of_ble_eq_true rfl⟩ rfl rfl (fun H locs hW => ?_)
  exact gw_retv F hW hf dX4_addLinks_30
set_option maxHeartbeats 4000000 in
set_option maxRecDepth 100000 in
theorem mXX4_addLinks_6 {l : Launch} {K : KX} {σ : XS} {x1 : Int32} {x2 : Int32} {o : XS} (hf : fXX4_addLinks_6 (kn K) x1 x2 σ = some o) : gw_Mv l (kD K) vwCl (tyX K) (wX K) yX4_addLinks wsX4_addLinks rXX4_addLinks_6 [.ref (ka K 6), .int x1, .int x2] σ o := by
  intro sz
  refine gw_body (cc := cX4_addLinks) (maxL := 4) (yret := none) (by decide +kernel) rfl ?_ (Nat.le_of_ble_eq_true rfl)
  intro p e s m below meth c F hsz hW ls hl
  exact wXX4_addLinks_6_0 F x1 x2 σ o hf s.heap [] ls hl hW
abbrev rXX5_open_7 : Room := { frames := 1, cells := 0, slots := 0, locals := 22 }
set_option maxHeartbeats 4000000 in
set_option maxRecDepth 100000 in
theorem wXX5_open_7_0 {p : Program} {l : Launch} {e : Env} {s : State} {m : MethodId} {args : Array Value} {below : List Frame} {meth : Method} {c : Code} {A : Nat → Prop} {K : KX} (F : fx_ p s m args meth c cX5_open 2 (some .int) RX5 wsX5_open) (x1 : Int32) (σ : XS) (o : (Int32 × XS)) (hf : fXX5_open_7_0 (kn K) x1 σ = some o) (H : Heap) (locs : List Loc) (ls : Array Slot) (hl : lv_has ls 2 [(0, .ref (ka K 7)), (1, .int x1)]) (hW : gw_ (kD K) vwCl (tyX K) (wX K) A s σ H locs) : W p l e rXX5_open_7 s m args below meth c H locs 0 0 (MQ below (gw_Qi (kD K) vwCl (tyX K) (wX K) A o) args s rXX5_open_7.cells rXX5_open_7.slots A) (F0 m 0 ls []) := by
  have hx := F.1
  have hb := F.2.1
  have hml := F.2.2.2.1
  have hown := F.2.2.2.2.1
  have hts := F.2.2.2.2.2.1
  have hG : ∀ x ∈ gT, x.before args s = true := fun x h => hts x (List.mem_cons_of_mem _ h)
  unfold fXX5_open_7_0 at hf
  refine lv_aload_n hx hb dX5_open_0 rfl (lv_at hl 0 rfl) ?_
  refine gw_get (v := .ref (ka K 1)) F inc_X5 hW 7 5 0 (aX_7 K σ) rfl (by decide) (hG _ q_1_124) (fun _ h9 => h9) rfl dX5_open_1 ?_
  refine lv_iload_n hx hb dX5_open_4 rfl (lv_at hl 1 rfl) ?_
  refine lv_sipush (v := (1024 : Int32)) hx hb dX5_open_5 (by decide) ?_
  refine lv_imul hx hb dX5_open_8 ?_
  refine lv_iconst (v := (4 : Int32)) hx hb dX5_open_9 (by decide) ?_
  refine lv_iadd hx hb dX5_open_10 ?_
  refine lv_sipush (v := (1024 : Int32)) hx hb dX5_open_11 (by decide) ?_
  obtain ⟨o1, h2, hf⟩ := gw_bind hf
  refine gw_Vv (As := [.int ((x1 * (1024 : Int32)) + (4 : Int32)), .int (1024 : Int32)]) (mc' := 0) (ms' := 0) F hW (mXX1_put2_1 h2) (cwV 2 hts (gT_V q_5_56 q_4_160 q_4_161 q_1_3 q_4_162) rfl rfl rfl hdX1_put2 ⟨Nat.le_of_ble_eq_true rfl, Nat.le_of_ble_eq_true rfl⟩) 1 1 (aX_1 K σ) rfl rfl hl.1 rfl (Nat.le_of_ble_eq_true rfl) dX5_open_14 ⟨Nat.le_of_ble_eq_true rfl, Nat.le_of_ble_eq_true rfl⟩ rfl rfl (fun H locs hW => ?_)
  refine lv_iload_n hx hb dX5_open_17 rfl (lv_at hl 1 rfl) ?_
  refine lv_sipush (v := (1024 : Int32)) hx hb dX5_open_18 (by decide) ?_
  refine lv_imul hx hb dX5_open_21 ?_
  exact gw_reti F hW hf dX5_open_22
set_option maxHeartbeats 4000000 in
set_option maxRecDepth 100000 in
theorem mXX5_open_7 {l : Launch} {K : KX} {σ : XS} {x1 : Int32} {o : (Int32 × XS)} (hf : fXX5_open_7 (kn K) x1 σ = some o) : gw_Mi l (kD K) vwCl (tyX K) (wX K) yX5_open wsX5_open rXX5_open_7 [.ref (ka K 7), .int x1] σ o := by
  intro sz
  refine gw_body (cc := cX5_open) (maxL := 2) (yret := some .int) (by decide +kernel) rfl ?_ (Nat.le_of_ble_eq_true rfl)
  intro p e s m below meth c F hsz hW ls hl
  exact wXX5_open_7_0 F x1 σ o hf s.heap [] ls hl hW
abbrev rXX4_costOf_6 : Room := { frames := 2, cells := 0, slots := 0, locals := 43 }
set_option maxHeartbeats 4000000 in
set_option maxRecDepth 100000 in
theorem wXX4_costOf_6_0 {p : Program} {l : Launch} {e : Env} {s : State} {m : MethodId} {args : Array Value} {below : List Frame} {meth : Method} {c : Code} {A : Nat → Prop} {K : KX} (F : fx_ p s m args meth c cX4_costOf 4 (some .int) RX4 wsX4_costOf) (x1 : Int32) (x2 : Int32) (σ : XS) (o : (Int32 × XS)) (hf : fXX4_costOf_6_0 (kn K) x1 x2 σ = some o) (H : Heap) (locs : List Loc) (ls : Array Slot) (hl : lv_has ls 4 [(0, .ref (ka K 6)), (1, .int x1), (2, .int x2)]) (hW : gw_ (kD K) vwCl (tyX K) (wX K) A s σ H locs) : W p l e rXX4_costOf_6 s m args below meth c H locs 0 0 (MQ below (gw_Qi (kD K) vwCl (tyX K) (wX K) A o) args s rXX4_costOf_6.cells rXX4_costOf_6.slots A) (F0 m 0 ls []) := by
  have hx := F.1
  have hb := F.2.1
  have hml := F.2.2.2.1
  have hown := F.2.2.2.2.1
  have hts := F.2.2.2.2.2.1
  have hG : ∀ x ∈ gT, x.before args s = true := fun x h => hts x (List.mem_cons_of_mem _ h)
  unfold fXX4_costOf_6_0 at hf
  refine lv_aload_n hx hb dX4_costOf_0 rfl (lv_at hl 0 rfl) ?_
  refine lv_iload_n hx hb dX4_costOf_1 rfl (lv_at hl 1 rfl) ?_
  obtain ⟨o1, h2, hf⟩ := gw_bind hf
  refine gw_Vi (As := [.int x1]) (mc' := 0) (ms' := 0) F hW (mXX4_size_6 h2) (cwV 1 hts (gT_V q_5_26 q_2_154 q_2_155 q_1_6 q_2_156) rfl rfl rfl hdX4_size ⟨Nat.le_of_ble_eq_true rfl, Nat.le_of_ble_eq_true rfl⟩) 6 4 (aX_6 K σ) rfl rfl hl.1 rfl (Nat.le_of_ble_eq_true rfl) dX4_costOf_2 ⟨Nat.le_of_ble_eq_true rfl, Nat.le_of_ble_eq_true rfl⟩ rfl rfl (fun H locs hW => ?_)
  refine lv_istore_n (lv' := [(3, .int o1.1), (0, .ref (ka K 6)), (1, .int x1), (2, .int x2)]) hx hb dX4_costOf_5 rfl hl (by decide) rfl (fun ls hl => ?_)
  refine lv_iload_n hx hb dX4_costOf_6 rfl (lv_at hl 0 rfl) ?_
  refine lv_iload_n hx hb dX4_costOf_7 rfl (lv_at hl 3 rfl) ?_
  refine lv_iadd hx hb dX4_costOf_8 ?_
  obtain ⟨o4, h5, hf⟩ := gw_bind hf
  refine gw_Si (As := [.int (o1.1 + x2)]) (mc' := 0) (ms' := 0) F hW (mXX4_blocksFor h5) (va_cwS 1 hts (gT_S q_5_27 q_2_120 q_1_6 q_2_121) rfl rfl rfl hdX4_blocksFor.2 ⟨Nat.le_of_ble_eq_true rfl, Nat.le_of_ble_eq_true rfl⟩) rfl hl.1 rfl (Nat.le_of_ble_eq_true rfl) dX4_costOf_9 ⟨Nat.le_of_ble_eq_true rfl, Nat.le_of_ble_eq_true rfl⟩ rfl rfl (fun H locs hW => ?_)
  obtain ⟨o7, h8, hf⟩ := gw_bind hf
  refine gw_Si (As := [.int o4.1]) (mc' := 0) (ms' := 0) F hW (mXX4_withIndirect h8) (va_cwS 1 hts (gT_S q_5_210 q_2_129 q_1_6 q_2_130) rfl rfl rfl hdX4_withIndirect.2 ⟨Nat.le_of_ble_eq_true rfl, Nat.le_of_ble_eq_true rfl⟩) rfl hl.1 rfl (Nat.le_of_ble_eq_true rfl) dX4_costOf_12 ⟨Nat.le_of_ble_eq_true rfl, Nat.le_of_ble_eq_true rfl⟩ rfl rfl (fun H locs hW => ?_)
  refine lv_iload_n hx hb dX4_costOf_15 rfl (lv_at hl 0 rfl) ?_
  obtain ⟨o10, h11, hf⟩ := gw_bind hf
  refine gw_Si (As := [.int o1.1]) (mc' := 0) (ms' := 0) F hW (mXX4_blocksFor h11) (va_cwS 1 hts (gT_S q_5_27 q_2_120 q_1_6 q_2_121) rfl rfl rfl hdX4_blocksFor.2 ⟨Nat.le_of_ble_eq_true rfl, Nat.le_of_ble_eq_true rfl⟩) rfl hl.1 rfl (Nat.le_of_ble_eq_true rfl) dX4_costOf_16 ⟨Nat.le_of_ble_eq_true rfl, Nat.le_of_ble_eq_true rfl⟩ rfl rfl (fun H locs hW => ?_)
  obtain ⟨o13, h14, hf⟩ := gw_bind hf
  refine gw_Si (As := [.int o10.1]) (mc' := 0) (ms' := 0) F hW (mXX4_withIndirect h14) (va_cwS 1 hts (gT_S q_5_210 q_2_129 q_1_6 q_2_130) rfl rfl rfl hdX4_withIndirect.2 ⟨Nat.le_of_ble_eq_true rfl, Nat.le_of_ble_eq_true rfl⟩) rfl hl.1 rfl (Nat.le_of_ble_eq_true rfl) dX4_costOf_19 ⟨Nat.le_of_ble_eq_true rfl, Nat.le_of_ble_eq_true rfl⟩ rfl rfl (fun H locs hW => ?_)
  refine lv_isub hx hb dX4_costOf_22 ?_
  exact gw_reti F hW hf dX4_costOf_23
set_option maxHeartbeats 4000000 in
set_option maxRecDepth 100000 in
theorem mXX4_costOf_6 {l : Launch} {K : KX} {σ : XS} {x1 : Int32} {x2 : Int32} {o : (Int32 × XS)} (hf : fXX4_costOf_6 (kn K) x1 x2 σ = some o) : gw_Mi l (kD K) vwCl (tyX K) (wX K) yX4_costOf wsX4_costOf rXX4_costOf_6 [.ref (ka K 6), .int x1, .int x2] σ o := by
  intro sz
  refine gw_body (cc := cX4_costOf) (maxL := 4) (yret := some .int) (by decide +kernel) rfl ?_ (Nat.le_of_ble_eq_true rfl)
  intro p e s m below meth c F hsz hW ls hl
  exact wXX4_costOf_6_0 F x1 x2 σ o hf s.heap [] ls hl hW
abbrev rXX4_append_6_16 : Room := { frames := 5, cells := 0, slots := 0, locals := 122 }
def PXX4_append_6_16_72 (p : Program) (l : Launch) (e : Env) (s : State) (m : MethodId) (args : Array Value) (below : List Frame) (meth : Method) (c : Code) (A : Nat → Prop) (K : KX) (t : (Int32 × Int32 × Int32 × Int32 × Int32 × XS)) (o : (Int32 × XS)) : Prop := ∀ (H : Heap) (locs : List Loc) (ls : Array Slot), lv_has ls 9 [(0, .ref (ka K 6)), (1, .int t.1), (2, .ref (ka K 16)), (3, .int t.2.1), (4, .int t.2.2.1), (6, .int t.2.2.2.1), (7, .int t.2.2.2.2.1)] → gw_ (kD K) vwCl (tyX K) (wX K) A s t.2.2.2.2.2 H locs → W p l e rXX4_append_6_16 s m args below meth c H locs 0 0 (MQ below (gw_Qi (kD K) vwCl (tyX K) (wX K) A o) args s rXX4_append_6_16.cells rXX4_append_6_16.slots A) (F0 m 72 ls [])
def PXX4_append_6_16_23 (p : Program) (l : Launch) (e : Env) (s : State) (m : MethodId) (args : Array Value) (below : List Frame) (meth : Method) (c : Code) (A : Nat → Prop) (K : KX) (t : (Int32 × Int32 × Int32 × Int32 × Int32 × XS)) (o : (Int32 × XS)) : Prop := ∀ (H : Heap) (locs : List Loc) (ls : Array Slot), lv_has ls 9 [(0, .ref (ka K 6)), (1, .int t.1), (2, .ref (ka K 16)), (3, .int t.2.1), (4, .int t.2.2.1), (5, .int t.2.2.2.1), (6, .int t.2.2.2.2.1)] → gw_ (kD K) vwCl (tyX K) (wX K) A s t.2.2.2.2.2 H locs → W p l e rXX4_append_6_16 s m args below meth c H locs 0 0 (MQ below (gw_Qi (kD K) vwCl (tyX K) (wX K) A o) args s rXX4_append_6_16.cells rXX4_append_6_16.slots A) (F0 m 23 ls [])
set_option maxHeartbeats 4000000 in
set_option maxRecDepth 100000 in
theorem wXX4_append_6_16_114 {p : Program} {l : Launch} {e : Env} {s : State} {m : MethodId} {args : Array Value} {below : List Frame} {meth : Method} {c : Code} {A : Nat → Prop} {K : KX} (F : fx_ p s m args meth c cX4_append 9 (some .int) RX4 wsX4_append) {k72 : (Int32 × Int32 × Int32 × Int32 × Int32 × XS) → Option (Int32 × XS)} (hk72 : ∀ t o, k72 t = some o → PXX4_append_6_16_72 p l e s m args below meth c A K t o) (x1 : Int32) (x3 : Int32) (x4 : Int32) (x6 : Int32) (x7 : Int32) (x8 : Int32) (σ : XS) (o : (Int32 × XS)) (hf : fXX4_append_6_16_114 (kn K) k72 x1 x3 x4 x6 x7 x8 σ = some o) (H : Heap) (locs : List Loc) (ls : Array Slot) (hl : lv_has ls 9 [(0, .ref (ka K 6)), (1, .int x1), (2, .ref (ka K 16)), (3, .int x3), (4, .int x4), (6, .int x6), (7, .int x7), (8, .int x8)]) (hW : gw_ (kD K) vwCl (tyX K) (wX K) A s σ H locs) : W p l e rXX4_append_6_16 s m args below meth c H locs 0 0 (MQ below (gw_Qi (kD K) vwCl (tyX K) (wX K) A o) args s rXX4_append_6_16.cells rXX4_append_6_16.slots A) (F0 m 114 ls []) := by
  have hx := F.1
  have hb := F.2.1
  have hml := F.2.2.2.1
  have hown := F.2.2.2.2.1
  have hts := F.2.2.2.2.2.1
  have hG : ∀ x ∈ gT, x.before args s = true := fun x h => hts x (List.mem_cons_of_mem _ h)
  unfold fXX4_append_6_16_114 at hf
  refine lv_aload_n hx hb dX4_append_114 rfl (lv_at hl 0 rfl) ?_
  refine gw_get (v := .ref (ka K 1)) F inc_X4 hW 6 4 0 (aX_6 K σ) rfl (by decide) (hG _ q_1_108) (fun _ h9 => h9) rfl dX4_append_115 ?_
  refine lv_iload hx hb dX4_append_118 (lv_at hl 5 rfl) ?_
  refine lv_iload hx hb dX4_append_120 (lv_at hl 7 rfl) ?_
  refine lv_iadd hx hb dX4_append_122 ?_
  refine lv_aload_n hx hb dX4_append_123 rfl (lv_at hl 2 rfl) ?_
  refine lv_iload hx hb dX4_append_124 (lv_at hl 6 rfl) ?_
  obtain ⟨o19, h20, hf⟩ := gw_bind hf
  refine gw_Ui (As := [.int x7]) (mc' := 0) (ms' := 0) F hW (mXX8_valueAt_16 h20) (va_cwA 1 hts (gT_U q_6_29 q_5_194 q_5_198 q_5_179 q_1_11 q_5_181) rfl rfl rfl (hW.1.2 _ xb_0) (by decide +kernel) ⟨Nat.le_of_ble_eq_true rfl, Nat.le_of_ble_eq_true rfl⟩) 16 8 (aX_16 K σ) rfl rfl hl.1 rfl (Nat.le_of_ble_eq_true rfl) dX4_append_126 ⟨Nat.le_of_ble_eq_true rfl, Nat.le_of_ble_eq_true rfl⟩ rfl rfl (fun H locs hW => ?_)
  obtain ⟨o22, h23, hf⟩ := gw_bind hf
  refine gw_Vv (As := [.int (x6 + x8), .int o19.1]) (mc' := 0) (ms' := 0) F hW (mXX1_put_1 h23) (cwV 2 hts (gT_V q_6_30 q_4_219 q_4_220 q_1_3 q_4_221) rfl rfl rfl hdX1_put ⟨Nat.le_of_ble_eq_true rfl, Nat.le_of_ble_eq_true rfl⟩) 1 1 (aX_1 K o19.2) rfl rfl hl.1 rfl (Nat.le_of_ble_eq_true rfl) dX4_append_129 ⟨Nat.le_of_ble_eq_true rfl, Nat.le_of_ble_eq_true rfl⟩ rfl rfl (fun H locs hW => ?_)
  refine lv_iinc (v := (x7 + (1 : Int32))) (lv' := [(7, .int (x7 + (1 : Int32))), (0, .ref (ka K 6)), (1, .int x1), (2, .ref (ka K 16)), (3, .int x3), (4, .int x4), (6, .int x6), (8, .int x8)]) hx hb dX4_append_132 hl (k := 6) rfl rfl (by decide) rfl (fun ls hl => ?_)
  refine lv_goto (tgt := 72) hx hb dX4_append_135 (by decide) ?_
  exact hk72 _ _ hf _ _ _ (lv_sub hl [1, 2, 3, 4, 5, 6, 0] rfl) hW
set_option maxHeartbeats 4000000 in
set_option maxRecDepth 100000 in
theorem wXX4_append_6_16_72 {p : Program} {l : Launch} {e : Env} {s : State} {m : MethodId} {args : Array Value} {below : List Frame} {meth : Method} {c : Code} {A : Nat → Prop} {K : KX} (F : fx_ p s m args meth c cX4_append 9 (some .int) RX4 wsX4_append) {k72 : (Int32 × Int32 × Int32 × Int32 × Int32 × XS) → Option (Int32 × XS)} (hk72 : ∀ t o, k72 t = some o → PXX4_append_6_16_72 p l e s m args below meth c A K t o) (x1 : Int32) (x3 : Int32) (x4 : Int32) (x6 : Int32) (x7 : Int32) (σ : XS) (o : (Int32 × XS)) (hf : fXX4_append_6_16_72 (kn K) k72 x1 x3 x4 x6 x7 σ = some o) (H : Heap) (locs : List Loc) (ls : Array Slot) (hl : lv_has ls 9 [(0, .ref (ka K 6)), (1, .int x1), (2, .ref (ka K 16)), (3, .int x3), (4, .int x4), (6, .int x6), (7, .int x7)]) (hW : gw_ (kD K) vwCl (tyX K) (wX K) A s σ H locs) : W p l e rXX4_append_6_16 s m args below meth c H locs 0 0 (MQ below (gw_Qi (kD K) vwCl (tyX K) (wX K) A o) args s rXX4_append_6_16.cells rXX4_append_6_16.slots A) (F0 m 72 ls []) := by
  have hx := F.1
  have hb := F.2.1
  have hml := F.2.2.2.1
  have hown := F.2.2.2.2.1
  have hts := F.2.2.2.2.2.1
  have hG : ∀ x ∈ gT, x.before args s = true := fun x h => hts x (List.mem_cons_of_mem _ h)
  unfold fXX4_append_6_16_72 at hf
  refine lv_iload hx hb dX4_append_72 (lv_at hl 6 rfl) ?_
  refine lv_iload_n hx hb dX4_append_74 rfl (lv_at hl 3 rfl) ?_
  refine lv_icmp_ge (tgt := 138) hx hb dX4_append_75 (by decide) (fun c17 => ?_) (fun c17 => ?_)
  · replace hf := (if_pos c17).symm.trans hf
    refine lv_iload hx hb dX4_append_138 (lv_at hl 4 rfl) ?_
    refine lv_iload_n hx hb dX4_append_140 rfl (lv_at hl 3 rfl) ?_
    refine lv_iadd hx hb dX4_append_141 ?_
    exact gw_reti F hW hf dX4_append_142
  · replace hf := (if_neg c17).symm.trans hf
    refine lv_iload hx hb dX4_append_78 (lv_at hl 4 rfl) ?_
    refine lv_iload hx hb dX4_append_80 (lv_at hl 6 rfl) ?_
    refine lv_iadd hx hb dX4_append_82 ?_
    refine lv_sipush (v := (1024 : Int32)) hx hb dX4_append_83 (by decide) ?_
    refine lv_irem hx hb dX4_append_86 (by decide) ?_
    refine lv_istore (lv' := [(8, .int ((x4 + x7) - (x4 + x7) / (1024 : Int32) * (1024 : Int32))), (0, .ref (ka K 6)), (1, .int x1), (2, .ref (ka K 16)), (3, .int x3), (4, .int x4), (6, .int x6), (7, .int x7)]) hx hb dX4_append_87 hl (by decide) rfl (fun ls hl => ?_)
    refine lv_iload hx hb dX4_append_89 (lv_at hl 0 rfl) ?_
    refine lv_if_ne (tgt := 114) hx hb dX4_append_91 (by decide) (fun c18 => ?_) (fun c18 => ?_)
    · replace hf := (if_neg c18).symm.trans hf
      exact wXX4_append_6_16_114 F hk72 x1 x3 x4 x6 x7 ((x4 + x7) - (x4 + x7) / (1024 : Int32) * (1024 : Int32)) _ _ hf _ _ _ (lv_sub hl [1, 2, 3, 4, 5, 6, 7, 0] rfl) hW
    · replace hf := (if_pos c18).symm.trans hf
      refine lv_aload_n hx hb dX4_append_94 rfl (lv_at hl 1 rfl) ?_
      refine lv_iload_n hx hb dX4_append_95 rfl (lv_at hl 2 rfl) ?_
      refine lv_iload hx hb dX4_append_96 (lv_at hl 5 rfl) ?_
      refine lv_iload hx hb dX4_append_98 (lv_at hl 7 rfl) ?_
      refine lv_iadd hx hb dX4_append_100 ?_
      refine lv_sipush (v := (1024 : Int32)) hx hb dX4_append_101 (by decide) ?_
      refine lv_idiv hx hb dX4_append_104 (by decide) ?_
      obtain ⟨o25, h26, hf⟩ := gw_bind hf
      refine gw_Vi (As := [.int x1, .int ((x4 + x7) / (1024 : Int32))]) (mc' := 0) (ms' := 0) F hW (mXX4_blockOf_6 h26) (cwV 2 hts (gT_V q_5_50 q_2_161 q_2_162 q_1_6 q_2_163) rfl rfl rfl hdX4_blockOf ⟨Nat.le_of_ble_eq_true rfl, Nat.le_of_ble_eq_true rfl⟩) 6 4 (aX_6 K σ) rfl rfl hl.1 rfl (Nat.le_of_ble_eq_true rfl) dX4_append_105 ⟨Nat.le_of_ble_eq_true rfl, Nat.le_of_ble_eq_true rfl⟩ rfl rfl (fun H locs hW => ?_)
      refine lv_sipush (v := (1024 : Int32)) hx hb dX4_append_108 (by decide) ?_
      refine lv_imul hx hb dX4_append_111 ?_
      refine lv_istore (lv' := [(6, .int (o25.1 * (1024 : Int32))), (8, .int ((x4 + x7) - (x4 + x7) / (1024 : Int32) * (1024 : Int32))), (0, .ref (ka K 6)), (1, .int x1), (2, .ref (ka K 16)), (3, .int x3), (4, .int x4), (7, .int x7)]) hx hb dX4_append_112 hl (by decide) rfl (fun ls hl => ?_)
      exact wXX4_append_6_16_114 F hk72 x1 x3 x4 (o25.1 * (1024 : Int32)) x7 ((x4 + x7) - (x4 + x7) / (1024 : Int32) * (1024 : Int32)) _ _ hf _ _ _ (lv_sub hl [2, 3, 4, 5, 6, 0, 7, 1] rfl) hW
set_option maxHeartbeats 4000000 in
set_option maxRecDepth 100000 in
theorem wXX4_append_6_16_23 {p : Program} {l : Launch} {e : Env} {s : State} {m : MethodId} {args : Array Value} {below : List Frame} {meth : Method} {c : Code} {A : Nat → Prop} {K : KX} (F : fx_ p s m args meth c cX4_append 9 (some .int) RX4 wsX4_append) {k23 : (Int32 × Int32 × Int32 × Int32 × Int32 × XS) → Option (Int32 × XS)} (hk23 : ∀ t o, k23 t = some o → PXX4_append_6_16_23 p l e s m args below meth c A K t o) (x1 : Int32) (x3 : Int32) (x4 : Int32) (x5 : Int32) (x6 : Int32) (σ : XS) (o : (Int32 × XS)) (hf : fXX4_append_6_16_23 (kn K) k23 x1 x3 x4 x5 x6 σ = some o) (H : Heap) (locs : List Loc) (ls : Array Slot) (hl : lv_has ls 9 [(0, .ref (ka K 6)), (1, .int x1), (2, .ref (ka K 16)), (3, .int x3), (4, .int x4), (5, .int x5), (6, .int x6)]) (hW : gw_ (kD K) vwCl (tyX K) (wX K) A s σ H locs) : W p l e rXX4_append_6_16 s m args below meth c H locs 0 0 (MQ below (gw_Qi (kD K) vwCl (tyX K) (wX K) A o) args s rXX4_append_6_16.cells rXX4_append_6_16.slots A) (F0 m 23 ls []) := by
  have hx := F.1
  have hb := F.2.1
  have hml := F.2.2.2.1
  have hown := F.2.2.2.2.1
  have hts := F.2.2.2.2.2.1
  have hG : ∀ x ∈ gT, x.before args s = true := fun x h => hts x (List.mem_cons_of_mem _ h)
  unfold fXX4_append_6_16_23 at hf
  refine lv_iload hx hb dX4_append_23 (lv_at hl 6 rfl) ?_
  refine lv_iload hx hb dX4_append_25 (lv_at hl 5 rfl) ?_
  refine lv_icmp_ge (tgt := 43) hx hb dX4_append_27 (by decide) (fun c10 => ?_) (fun c10 => ?_)
  · replace hf := (if_pos c10).symm.trans hf
    refine lv_aload_n hx hb dX4_append_43 rfl (lv_at hl 0 rfl) ?_
    refine lv_iload_n hx hb dX4_append_44 rfl (lv_at hl 1 rfl) ?_
    refine lv_iload hx hb dX4_append_45 (lv_at hl 4 rfl) ?_
    refine lv_iload_n hx hb dX4_append_47 rfl (lv_at hl 3 rfl) ?_
    refine lv_iadd hx hb dX4_append_48 ?_
    obtain ⟨o11, h12, hf⟩ := gw_bind hf
    refine gw_Vv (As := [.int x1, .int (x4 + x3)]) (mc' := 0) (ms' := 0) F hW (mXX4_setSize_6 h12) (cwV 2 hts (gT_V q_5_46 q_5_48 qp_27 q_1_6 q_5_49) rfl rfl rfl hdX4_setSize ⟨Nat.le_of_ble_eq_true rfl, Nat.le_of_ble_eq_true rfl⟩) 6 4 (aX_6 K σ) rfl rfl hl.1 rfl (Nat.le_of_ble_eq_true rfl) dX4_append_49 ⟨Nat.le_of_ble_eq_true rfl, Nat.le_of_ble_eq_true rfl⟩ rfl rfl (fun H locs hW => ?_)
    refine lv_aload_n hx hb dX4_append_52 rfl (lv_at hl 0 rfl) ?_
    refine lv_iload_n hx hb dX4_append_53 rfl (lv_at hl 1 rfl) ?_
    refine lv_iload hx hb dX4_append_54 (lv_at hl 4 rfl) ?_
    refine lv_sipush (v := (1024 : Int32)) hx hb dX4_append_56 (by decide) ?_
    refine lv_idiv hx hb dX4_append_59 (by decide) ?_
    obtain ⟨o14, h15, hf⟩ := gw_bind hf
    refine gw_Vi (As := [.int x1, .int (x4 / (1024 : Int32))]) (mc' := 0) (ms' := 0) F hW (mXX4_blockOf_6 h15) (cwV 2 hts (gT_V q_5_50 q_2_161 q_2_162 q_1_6 q_2_163) rfl rfl rfl hdX4_blockOf ⟨Nat.le_of_ble_eq_true rfl, Nat.le_of_ble_eq_true rfl⟩) 6 4 (aX_6 K o11) rfl rfl hl.1 rfl (Nat.le_of_ble_eq_true rfl) dX4_append_60 ⟨Nat.le_of_ble_eq_true rfl, Nat.le_of_ble_eq_true rfl⟩ rfl rfl (fun H locs hW => ?_)
    refine lv_sipush (v := (1024 : Int32)) hx hb dX4_append_63 (by decide) ?_
    refine lv_imul hx hb dX4_append_66 ?_
    refine lv_istore (lv' := [(6, .int (o14.1 * (1024 : Int32))), (0, .ref (ka K 6)), (1, .int x1), (2, .ref (ka K 16)), (3, .int x3), (4, .int x4), (5, .int x5)]) hx hb dX4_append_67 hl (by decide) rfl (fun ls hl => ?_)
    refine lv_iconst (v := (0 : Int32)) hx hb dX4_append_69 (by decide) ?_
    refine lv_istore (lv' := [(7, .int (0 : Int32)), (6, .int (o14.1 * (1024 : Int32))), (0, .ref (ka K 6)), (1, .int x1), (2, .ref (ka K 16)), (3, .int x3), (4, .int x4), (5, .int x5)]) hx hb dX4_append_70 hl (by decide) rfl (fun ls hl => ?_)
    exact lfix_ind (P := PXX4_append_6_16_72 p l e s m args below meth c A K) (fun k72 hk72 t o hf => wXX4_append_6_16_72 F hk72 t.1 t.2.1 t.2.2.1 t.2.2.2.1 t.2.2.2.2.1 t.2.2.2.2.2 o hf) FU _ _ hf _ _ _ (lv_sub hl [2, 3, 4, 5, 6, 1, 0] rfl) hW
  · replace hf := (if_neg c10).symm.trans hf
    refine lv_aload_n hx hb dX4_append_30 rfl (lv_at hl 0 rfl) ?_
    refine lv_iload_n hx hb dX4_append_31 rfl (lv_at hl 1 rfl) ?_
    refine lv_iload hx hb dX4_append_32 (lv_at hl 6 rfl) ?_
    obtain ⟨o28, h29, hf⟩ := gw_bind hf
    refine gw_Vv (As := [.int x1, .int x6]) (mc' := 0) (ms' := 0) F hW (mXX4_addBlock_6 h29) (cwV 2 hts (gT_V q_5_28 q_5_30 qp_24 q_1_6 q_5_31) rfl rfl rfl hdX4_addBlock ⟨Nat.le_of_ble_eq_true rfl, Nat.le_of_ble_eq_true rfl⟩) 6 4 (aX_6 K σ) rfl rfl hl.1 rfl (Nat.le_of_ble_eq_true rfl) dX4_append_34 ⟨Nat.le_of_ble_eq_true rfl, Nat.le_of_ble_eq_true rfl⟩ rfl rfl (fun H locs hW => ?_)
    refine lv_iinc (v := (x6 + (1 : Int32))) (lv' := [(6, .int (x6 + (1 : Int32))), (0, .ref (ka K 6)), (1, .int x1), (2, .ref (ka K 16)), (3, .int x3), (4, .int x4), (5, .int x5)]) hx hb dX4_append_37 hl (k := 6) rfl rfl (by decide) rfl (fun ls hl => ?_)
    refine lv_goto (tgt := 23) hx hb dX4_append_40 (by decide) ?_
    exact hk23 _ _ hf _ _ _ (lv_sub hl [1, 2, 3, 4, 5, 6, 0] rfl) hW
set_option maxHeartbeats 4000000 in
set_option maxRecDepth 100000 in
theorem wXX4_append_6_16_0 {p : Program} {l : Launch} {e : Env} {s : State} {m : MethodId} {args : Array Value} {below : List Frame} {meth : Method} {c : Code} {A : Nat → Prop} {K : KX} (F : fx_ p s m args meth c cX4_append 9 (some .int) RX4 wsX4_append) (x1 : Int32) (x3 : Int32) (σ : XS) (o : (Int32 × XS)) (hf : fXX4_append_6_16_0 (kn K) x1 x3 σ = some o) (H : Heap) (locs : List Loc) (ls : Array Slot) (hl : lv_has ls 9 [(0, .ref (ka K 6)), (1, .int x1), (2, .ref (ka K 16)), (3, .int x3)]) (hW : gw_ (kD K) vwCl (tyX K) (wX K) A s σ H locs) : W p l e rXX4_append_6_16 s m args below meth c H locs 0 0 (MQ below (gw_Qi (kD K) vwCl (tyX K) (wX K) A o) args s rXX4_append_6_16.cells rXX4_append_6_16.slots A) (F0 m 0 ls []) := by
  have hx := F.1
  have hb := F.2.1
  have hml := F.2.2.2.1
  have hown := F.2.2.2.2.1
  have hts := F.2.2.2.2.2.1
  have hG : ∀ x ∈ gT, x.before args s = true := fun x h => hts x (List.mem_cons_of_mem _ h)
  unfold fXX4_append_6_16_0 at hf
  refine lv_aload_n hx hb dX4_append_0 rfl (lv_at hl 0 rfl) ?_
  refine lv_iload_n hx hb dX4_append_1 rfl (lv_at hl 1 rfl) ?_
  obtain ⟨o1, h2, hf⟩ := gw_bind hf
  refine gw_Vi (As := [.int x1]) (mc' := 0) (ms' := 0) F hW (mXX4_size_6 h2) (cwV 1 hts (gT_V q_5_26 q_2_154 q_2_155 q_1_6 q_2_156) rfl rfl rfl hdX4_size ⟨Nat.le_of_ble_eq_true rfl, Nat.le_of_ble_eq_true rfl⟩) 6 4 (aX_6 K σ) rfl rfl hl.1 rfl (Nat.le_of_ble_eq_true rfl) dX4_append_2 ⟨Nat.le_of_ble_eq_true rfl, Nat.le_of_ble_eq_true rfl⟩ rfl rfl (fun H locs hW => ?_)
  refine lv_istore (lv' := [(4, .int o1.1), (0, .ref (ka K 6)), (1, .int x1), (2, .ref (ka K 16)), (3, .int x3)]) hx hb dX4_append_5 hl (by decide) rfl (fun ls hl => ?_)
  refine lv_iload hx hb dX4_append_7 (lv_at hl 0 rfl) ?_
  refine lv_iload_n hx hb dX4_append_9 rfl (lv_at hl 4 rfl) ?_
  refine lv_iadd hx hb dX4_append_10 ?_
  obtain ⟨o4, h5, hf⟩ := gw_bind hf
  refine gw_Si (As := [.int (o1.1 + x3)]) (mc' := 0) (ms' := 0) F hW (mXX4_blocksFor h5) (va_cwS 1 hts (gT_S q_5_27 q_2_120 q_1_6 q_2_121) rfl rfl rfl hdX4_blocksFor.2 ⟨Nat.le_of_ble_eq_true rfl, Nat.le_of_ble_eq_true rfl⟩) rfl hl.1 rfl (Nat.le_of_ble_eq_true rfl) dX4_append_11 ⟨Nat.le_of_ble_eq_true rfl, Nat.le_of_ble_eq_true rfl⟩ rfl rfl (fun H locs hW => ?_)
  refine lv_istore (lv' := [(5, .int o4.1), (4, .int o1.1), (0, .ref (ka K 6)), (1, .int x1), (2, .ref (ka K 16)), (3, .int x3)]) hx hb dX4_append_14 hl (by decide) rfl (fun ls hl => ?_)
  refine lv_iload hx hb dX4_append_16 (lv_at hl 1 rfl) ?_
  obtain ⟨o7, h8, hf⟩ := gw_bind hf
  refine gw_Si (As := [.int o1.1]) (mc' := 0) (ms' := 0) F hW (mXX4_blocksFor h8) (va_cwS 1 hts (gT_S q_5_27 q_2_120 q_1_6 q_2_121) rfl rfl rfl hdX4_blocksFor.2 ⟨Nat.le_of_ble_eq_true rfl, Nat.le_of_ble_eq_true rfl⟩) rfl hl.1 rfl (Nat.le_of_ble_eq_true rfl) dX4_append_18 ⟨Nat.le_of_ble_eq_true rfl, Nat.le_of_ble_eq_true rfl⟩ rfl rfl (fun H locs hW => ?_)
  refine lv_istore (lv' := [(6, .int o7.1), (5, .int o4.1), (4, .int o1.1), (0, .ref (ka K 6)), (1, .int x1), (2, .ref (ka K 16)), (3, .int x3)]) hx hb dX4_append_21 hl (by decide) rfl (fun ls hl => ?_)
  exact lfix_ind (P := PXX4_append_6_16_23 p l e s m args below meth c A K) (fun k23 hk23 t o hf => wXX4_append_6_16_23 F hk23 t.1 t.2.1 t.2.2.1 t.2.2.2.1 t.2.2.2.2.1 t.2.2.2.2.2 o hf) FU _ _ hf _ _ _ (lv_sub hl [3, 4, 5, 6, 2, 1, 0] rfl) hW
set_option maxHeartbeats 4000000 in
set_option maxRecDepth 100000 in
theorem mXX4_append_6_16 {l : Launch} {K : KX} {σ : XS} {x1 : Int32} {x3 : Int32} {o : (Int32 × XS)} (hf : fXX4_append_6_16 (kn K) x1 x3 σ = some o) : gw_Mi l (kD K) vwCl (tyX K) (wX K) yX4_append wsX4_append rXX4_append_6_16 [.ref (ka K 6), .int x1, .ref (ka K 16), .int x3] σ o := by
  intro sz
  refine gw_body (cc := cX4_append) (maxL := 9) (yret := some .int) (by decide +kernel) rfl ?_ (Nat.le_of_ble_eq_true rfl)
  intro p e s m below meth c F hsz hW ls hl
  exact wXX4_append_6_16_0 F x1 x3 σ o hf s.heap [] ls hl hW
abbrev rXX11_valueAt_19 : Room := { frames := 0, cells := 0, slots := 0, locals := 0 }
set_option maxHeartbeats 4000000 in
set_option maxRecDepth 100000 in
theorem wXX11_valueAt_19_0 {p : Program} {l : Launch} {e : Env} {s : State} {m : MethodId} {args : Array Value} {below : List Frame} {meth : Method} {c : Code} {A : Nat → Prop} {K : KX} {q : Nat} {sd : Int32} (F : fx_ p s m args meth c cX11_valueAt 2 (some .int) RX11 wsX11_valueAt) (x1 : Int32) (σ : XS) (o : (Int32 × XS)) (hf : fXX11_valueAt_19_0 (kn K) sd x1 σ = some o) (H : Heap) (locs : List Loc) (ls : Array Slot) (hl : lv_has ls 2 [(0, .ref q), (1, .int x1)]) (hW : gw_ (kD (KP K q sd)) vwCl (tyX (KP K q sd)) (wX (KP K q sd)) A s σ H locs) : W p l e rXX11_valueAt_19 s m args below meth c H locs 0 0 (MQ below (gw_Qi (kD (KP K q sd)) vwCl (tyX (KP K q sd)) (wX (KP K q sd)) A o) args s rXX11_valueAt_19.cells rXX11_valueAt_19.slots A) (F0 m 0 ls []) := by
  have hx := F.1
  have hb := F.2.1
  have hml := F.2.2.2.1
  have hown := F.2.2.2.2.1
  have hts := F.2.2.2.2.2.1
  have hG : ∀ x ∈ gT, x.before args s = true := fun x h => hts x (List.mem_cons_of_mem _ h)
  unfold fXX11_valueAt_19_0 at hf
  refine lv_aload_n hx hb dX11_valueAt_0 rfl (lv_at hl 0 rfl) ?_
  refine gw_get (v := .int sd) F inc_X11 hW 19 9 0 rfl rfl (by decide) (hG _ q_6_46) (fun _ h9 => h9) rfl dX11_valueAt_1 ?_
  refine lv_iload_n hx hb dX11_valueAt_4 rfl (lv_at hl 1 rfl) ?_
  refine lv_iload_n hx hb dX11_valueAt_5 rfl (lv_at hl 1 rfl) ?_
  refine lv_imul hx hb dX11_valueAt_6 ?_
  refine lv_iadd hx hb dX11_valueAt_7 ?_
  refine lv_iload_n hx hb dX11_valueAt_8 rfl (lv_at hl 1 rfl) ?_
  refine lv_bipush (v := (8 : Int32)) hx hb dX11_valueAt_9 (by decide) ?_
  refine lv_ishr hx hb dX11_valueAt_11 ?_
  refine lv_iadd hx hb dX11_valueAt_12 ?_
  refine lv_sipush (v := (255 : Int32)) hx hb dX11_valueAt_13 (by decide) ?_
  refine lv_iand hx hb dX11_valueAt_16 ?_
  exact gw_reti F hW hf dX11_valueAt_17
set_option maxHeartbeats 4000000 in
set_option maxRecDepth 100000 in
theorem mXX11_valueAt_19 {l : Launch} {K : KX} {q : Nat} {sd : Int32} {σ : XS} {x1 : Int32} {o : (Int32 × XS)} (hf : fXX11_valueAt_19 (kn K) sd x1 σ = some o) : gw_Mi l (kD (KP K q sd)) vwCl (tyX (KP K q sd)) (wX (KP K q sd)) yX11_valueAt wsX11_valueAt rXX11_valueAt_19 [.ref q, .int x1] σ o := by
  intro sz
  refine gw_body (cc := cX11_valueAt) (maxL := 2) (yret := some .int) (by decide +kernel) rfl ?_ (Nat.le_of_ble_eq_true rfl)
  intro p e s m below meth c F hsz hW ls hl
  exact wXX11_valueAt_19_0 F x1 σ o hf s.heap [] ls hl hW
abbrev rXX4_append_6_19 : Room := { frames := 5, cells := 0, slots := 0, locals := 122 }
def PXX4_append_6_19_72 (p : Program) (l : Launch) (e : Env) (s : State) (m : MethodId) (args : Array Value) (below : List Frame) (meth : Method) (c : Code) (A : Nat → Prop) (K : KX) (q : Nat) (sd : Int32) (t : (Int32 × Int32 × Int32 × Int32 × Int32 × XS)) (o : (Int32 × XS)) : Prop := ∀ (H : Heap) (locs : List Loc) (ls : Array Slot), lv_has ls 9 [(0, .ref (ka K 6)), (1, .int t.1), (2, .ref q), (3, .int t.2.1), (4, .int t.2.2.1), (6, .int t.2.2.2.1), (7, .int t.2.2.2.2.1)] → gw_ (kD (KP K q sd)) vwCl (tyX (KP K q sd)) (wX (KP K q sd)) A s t.2.2.2.2.2 H locs → W p l e rXX4_append_6_19 s m args below meth c H locs 0 0 (MQ below (gw_Qi (kD (KP K q sd)) vwCl (tyX (KP K q sd)) (wX (KP K q sd)) A o) args s rXX4_append_6_19.cells rXX4_append_6_19.slots A) (F0 m 72 ls [])
def PXX4_append_6_19_23 (p : Program) (l : Launch) (e : Env) (s : State) (m : MethodId) (args : Array Value) (below : List Frame) (meth : Method) (c : Code) (A : Nat → Prop) (K : KX) (q : Nat) (sd : Int32) (t : (Int32 × Int32 × Int32 × Int32 × Int32 × XS)) (o : (Int32 × XS)) : Prop := ∀ (H : Heap) (locs : List Loc) (ls : Array Slot), lv_has ls 9 [(0, .ref (ka K 6)), (1, .int t.1), (2, .ref q), (3, .int t.2.1), (4, .int t.2.2.1), (5, .int t.2.2.2.1), (6, .int t.2.2.2.2.1)] → gw_ (kD (KP K q sd)) vwCl (tyX (KP K q sd)) (wX (KP K q sd)) A s t.2.2.2.2.2 H locs → W p l e rXX4_append_6_19 s m args below meth c H locs 0 0 (MQ below (gw_Qi (kD (KP K q sd)) vwCl (tyX (KP K q sd)) (wX (KP K q sd)) A o) args s rXX4_append_6_19.cells rXX4_append_6_19.slots A) (F0 m 23 ls [])
set_option maxHeartbeats 4000000 in
set_option maxRecDepth 100000 in
theorem wXX4_append_6_19_114 {p : Program} {l : Launch} {e : Env} {s : State} {m : MethodId} {args : Array Value} {below : List Frame} {meth : Method} {c : Code} {A : Nat → Prop} {K : KX} {q : Nat} {sd : Int32} (F : fx_ p s m args meth c cX4_append 9 (some .int) RX4 wsX4_append) {k72 : (Int32 × Int32 × Int32 × Int32 × Int32 × XS) → Option (Int32 × XS)} (hk72 : ∀ t o, k72 t = some o → PXX4_append_6_19_72 p l e s m args below meth c A K q sd t o) (x1 : Int32) (x3 : Int32) (x4 : Int32) (x6 : Int32) (x7 : Int32) (x8 : Int32) (σ : XS) (o : (Int32 × XS)) (hf : fXX4_append_6_19_114 (kn K) sd k72 x1 x3 x4 x6 x7 x8 σ = some o) (H : Heap) (locs : List Loc) (ls : Array Slot) (hl : lv_has ls 9 [(0, .ref (ka K 6)), (1, .int x1), (2, .ref q), (3, .int x3), (4, .int x4), (6, .int x6), (7, .int x7), (8, .int x8)]) (hW : gw_ (kD (KP K q sd)) vwCl (tyX (KP K q sd)) (wX (KP K q sd)) A s σ H locs) : W p l e rXX4_append_6_19 s m args below meth c H locs 0 0 (MQ below (gw_Qi (kD (KP K q sd)) vwCl (tyX (KP K q sd)) (wX (KP K q sd)) A o) args s rXX4_append_6_19.cells rXX4_append_6_19.slots A) (F0 m 114 ls []) := by
  have hx := F.1
  have hb := F.2.1
  have hml := F.2.2.2.1
  have hown := F.2.2.2.2.1
  have hts := F.2.2.2.2.2.1
  have hG : ∀ x ∈ gT, x.before args s = true := fun x h => hts x (List.mem_cons_of_mem _ h)
  unfold fXX4_append_6_19_114 at hf
  refine lv_aload_n hx hb dX4_append_114 rfl (lv_at hl 0 rfl) ?_
  refine gw_get (v := .ref (ka K 1)) F inc_X4 hW 6 4 0 (aX_6 (KP K q sd) σ) rfl (by decide) (hG _ q_1_108) (fun _ h9 => h9) rfl dX4_append_115 ?_
  refine lv_iload hx hb dX4_append_118 (lv_at hl 5 rfl) ?_
  refine lv_iload hx hb dX4_append_120 (lv_at hl 7 rfl) ?_
  refine lv_iadd hx hb dX4_append_122 ?_
  refine lv_aload_n hx hb dX4_append_123 rfl (lv_at hl 2 rfl) ?_
  refine lv_iload hx hb dX4_append_124 (lv_at hl 6 rfl) ?_
  obtain ⟨o19, h20, hf⟩ := gw_bind hf
  refine gw_Ui (As := [.int x7]) (mc' := 0) (ms' := 0) F hW (mXX11_valueAt_19 h20) (va_cwA 1 hts (gT_U q_6_29 q_5_194 q_5_195 q_5_196 q_1_31 q_5_197) rfl rfl rfl (hW.1.2 _ xb_0) (by decide +kernel) ⟨Nat.le_of_ble_eq_true rfl, Nat.le_of_ble_eq_true rfl⟩) 19 9 rfl rfl rfl hl.1 rfl (Nat.le_of_ble_eq_true rfl) dX4_append_126 ⟨Nat.le_of_ble_eq_true rfl, Nat.le_of_ble_eq_true rfl⟩ rfl rfl (fun H locs hW => ?_)
  obtain ⟨o22, h23, hf⟩ := gw_bind hf
  refine gw_Vv (As := [.int (x6 + x8), .int o19.1]) (mc' := 0) (ms' := 0) F hW (mXX1_put_1 h23) (cwV 2 hts (gT_V q_6_30 q_4_219 q_4_220 q_1_3 q_4_221) rfl rfl rfl hdX1_put ⟨Nat.le_of_ble_eq_true rfl, Nat.le_of_ble_eq_true rfl⟩) 1 1 (aX_1 (KP K q sd) o19.2) rfl rfl hl.1 rfl (Nat.le_of_ble_eq_true rfl) dX4_append_129 ⟨Nat.le_of_ble_eq_true rfl, Nat.le_of_ble_eq_true rfl⟩ rfl rfl (fun H locs hW => ?_)
  refine lv_iinc (v := (x7 + (1 : Int32))) (lv' := [(7, .int (x7 + (1 : Int32))), (0, .ref (ka K 6)), (1, .int x1), (2, .ref q), (3, .int x3), (4, .int x4), (6, .int x6), (8, .int x8)]) hx hb dX4_append_132 hl (k := 6) rfl rfl (by decide) rfl (fun ls hl => ?_)
  refine lv_goto (tgt := 72) hx hb dX4_append_135 (by decide) ?_
  exact hk72 _ _ hf _ _ _ (lv_sub hl [1, 2, 3, 4, 5, 6, 0] rfl) hW
set_option maxHeartbeats 4000000 in
set_option maxRecDepth 100000 in
theorem wXX4_append_6_19_72 {p : Program} {l : Launch} {e : Env} {s : State} {m : MethodId} {args : Array Value} {below : List Frame} {meth : Method} {c : Code} {A : Nat → Prop} {K : KX} {q : Nat} {sd : Int32} (F : fx_ p s m args meth c cX4_append 9 (some .int) RX4 wsX4_append) {k72 : (Int32 × Int32 × Int32 × Int32 × Int32 × XS) → Option (Int32 × XS)} (hk72 : ∀ t o, k72 t = some o → PXX4_append_6_19_72 p l e s m args below meth c A K q sd t o) (x1 : Int32) (x3 : Int32) (x4 : Int32) (x6 : Int32) (x7 : Int32) (σ : XS) (o : (Int32 × XS)) (hf : fXX4_append_6_19_72 (kn K) sd k72 x1 x3 x4 x6 x7 σ = some o) (H : Heap) (locs : List Loc) (ls : Array Slot) (hl : lv_has ls 9 [(0, .ref (ka K 6)), (1, .int x1), (2, .ref q), (3, .int x3), (4, .int x4), (6, .int x6), (7, .int x7)]) (hW : gw_ (kD (KP K q sd)) vwCl (tyX (KP K q sd)) (wX (KP K q sd)) A s σ H locs) : W p l e rXX4_append_6_19 s m args below meth c H locs 0 0 (MQ below (gw_Qi (kD (KP K q sd)) vwCl (tyX (KP K q sd)) (wX (KP K q sd)) A o) args s rXX4_append_6_19.cells rXX4_append_6_19.slots A) (F0 m 72 ls []) := by
  have hx := F.1
  have hb := F.2.1
  have hml := F.2.2.2.1
  have hown := F.2.2.2.2.1
  have hts := F.2.2.2.2.2.1
  have hG : ∀ x ∈ gT, x.before args s = true := fun x h => hts x (List.mem_cons_of_mem _ h)
  unfold fXX4_append_6_19_72 at hf
  refine lv_iload hx hb dX4_append_72 (lv_at hl 6 rfl) ?_
  refine lv_iload_n hx hb dX4_append_74 rfl (lv_at hl 3 rfl) ?_
  refine lv_icmp_ge (tgt := 138) hx hb dX4_append_75 (by decide) (fun c17 => ?_) (fun c17 => ?_)
  · replace hf := (if_pos c17).symm.trans hf
    refine lv_iload hx hb dX4_append_138 (lv_at hl 4 rfl) ?_
    refine lv_iload_n hx hb dX4_append_140 rfl (lv_at hl 3 rfl) ?_
    refine lv_iadd hx hb dX4_append_141 ?_
    exact gw_reti F hW hf dX4_append_142
  · replace hf := (if_neg c17).symm.trans hf
    refine lv_iload hx hb dX4_append_78 (lv_at hl 4 rfl) ?_
    refine lv_iload hx hb dX4_append_80 (lv_at hl 6 rfl) ?_
    refine lv_iadd hx hb dX4_append_82 ?_
    refine lv_sipush (v := (1024 : Int32)) hx hb dX4_append_83 (by decide) ?_
    refine lv_irem hx hb dX4_append_86 (by decide) ?_
    refine lv_istore (lv' := [(8, .int ((x4 + x7) - (x4 + x7) / (1024 : Int32) * (1024 : Int32))), (0, .ref (ka K 6)), (1, .int x1), (2, .ref q), (3, .int x3), (4, .int x4), (6, .int x6), (7, .int x7)]) hx hb dX4_append_87 hl (by decide) rfl (fun ls hl => ?_)
    refine lv_iload hx hb dX4_append_89 (lv_at hl 0 rfl) ?_
    refine lv_if_ne (tgt := 114) hx hb dX4_append_91 (by decide) (fun c18 => ?_) (fun c18 => ?_)
    · replace hf := (if_neg c18).symm.trans hf
      exact wXX4_append_6_19_114 F hk72 x1 x3 x4 x6 x7 ((x4 + x7) - (x4 + x7) / (1024 : Int32) * (1024 : Int32)) _ _ hf _ _ _ (lv_sub hl [1, 2, 3, 4, 5, 6, 7, 0] rfl) hW
    · replace hf := (if_pos c18).symm.trans hf
      refine lv_aload_n hx hb dX4_append_94 rfl (lv_at hl 1 rfl) ?_
      refine lv_iload_n hx hb dX4_append_95 rfl (lv_at hl 2 rfl) ?_
      refine lv_iload hx hb dX4_append_96 (lv_at hl 5 rfl) ?_
      refine lv_iload hx hb dX4_append_98 (lv_at hl 7 rfl) ?_
      refine lv_iadd hx hb dX4_append_100 ?_
      refine lv_sipush (v := (1024 : Int32)) hx hb dX4_append_101 (by decide) ?_
      refine lv_idiv hx hb dX4_append_104 (by decide) ?_
      obtain ⟨o25, h26, hf⟩ := gw_bind hf
      refine gw_Vi (As := [.int x1, .int ((x4 + x7) / (1024 : Int32))]) (mc' := 0) (ms' := 0) F hW (mXX4_blockOf_6 h26) (cwV 2 hts (gT_V q_5_50 q_2_161 q_2_162 q_1_6 q_2_163) rfl rfl rfl hdX4_blockOf ⟨Nat.le_of_ble_eq_true rfl, Nat.le_of_ble_eq_true rfl⟩) 6 4 (aX_6 (KP K q sd) σ) rfl rfl hl.1 rfl (Nat.le_of_ble_eq_true rfl) dX4_append_105 ⟨Nat.le_of_ble_eq_true rfl, Nat.le_of_ble_eq_true rfl⟩ rfl rfl (fun H locs hW => ?_)
      refine lv_sipush (v := (1024 : Int32)) hx hb dX4_append_108 (by decide) ?_
      refine lv_imul hx hb dX4_append_111 ?_
      refine lv_istore (lv' := [(6, .int (o25.1 * (1024 : Int32))), (8, .int ((x4 + x7) - (x4 + x7) / (1024 : Int32) * (1024 : Int32))), (0, .ref (ka K 6)), (1, .int x1), (2, .ref q), (3, .int x3), (4, .int x4), (7, .int x7)]) hx hb dX4_append_112 hl (by decide) rfl (fun ls hl => ?_)
      exact wXX4_append_6_19_114 F hk72 x1 x3 x4 (o25.1 * (1024 : Int32)) x7 ((x4 + x7) - (x4 + x7) / (1024 : Int32) * (1024 : Int32)) _ _ hf _ _ _ (lv_sub hl [2, 3, 4, 5, 6, 0, 7, 1] rfl) hW
set_option maxHeartbeats 4000000 in
set_option maxRecDepth 100000 in
theorem wXX4_append_6_19_23 {p : Program} {l : Launch} {e : Env} {s : State} {m : MethodId} {args : Array Value} {below : List Frame} {meth : Method} {c : Code} {A : Nat → Prop} {K : KX} {q : Nat} {sd : Int32} (F : fx_ p s m args meth c cX4_append 9 (some .int) RX4 wsX4_append) {k23 : (Int32 × Int32 × Int32 × Int32 × Int32 × XS) → Option (Int32 × XS)} (hk23 : ∀ t o, k23 t = some o → PXX4_append_6_19_23 p l e s m args below meth c A K q sd t o) (x1 : Int32) (x3 : Int32) (x4 : Int32) (x5 : Int32) (x6 : Int32) (σ : XS) (o : (Int32 × XS)) (hf : fXX4_append_6_19_23 (kn K) sd k23 x1 x3 x4 x5 x6 σ = some o) (H : Heap) (locs : List Loc) (ls : Array Slot) (hl : lv_has ls 9 [(0, .ref (ka K 6)), (1, .int x1), (2, .ref q), (3, .int x3), (4, .int x4), (5, .int x5), (6, .int x6)]) (hW : gw_ (kD (KP K q sd)) vwCl (tyX (KP K q sd)) (wX (KP K q sd)) A s σ H locs) : W p l e rXX4_append_6_19 s m args below meth c H locs 0 0 (MQ below (gw_Qi (kD (KP K q sd)) vwCl (tyX (KP K q sd)) (wX (KP K q sd)) A o) args s rXX4_append_6_19.cells rXX4_append_6_19.slots A) (F0 m 23 ls []) := by
  have hx := F.1
  have hb := F.2.1
  have hml := F.2.2.2.1
  have hown := F.2.2.2.2.1
  have hts := F.2.2.2.2.2.1
  have hG : ∀ x ∈ gT, x.before args s = true := fun x h => hts x (List.mem_cons_of_mem _ h)
  unfold fXX4_append_6_19_23 at hf
  refine lv_iload hx hb dX4_append_23 (lv_at hl 6 rfl) ?_
  refine lv_iload hx hb dX4_append_25 (lv_at hl 5 rfl) ?_
  refine lv_icmp_ge (tgt := 43) hx hb dX4_append_27 (by decide) (fun c10 => ?_) (fun c10 => ?_)
  · replace hf := (if_pos c10).symm.trans hf
    refine lv_aload_n hx hb dX4_append_43 rfl (lv_at hl 0 rfl) ?_
    refine lv_iload_n hx hb dX4_append_44 rfl (lv_at hl 1 rfl) ?_
    refine lv_iload hx hb dX4_append_45 (lv_at hl 4 rfl) ?_
    refine lv_iload_n hx hb dX4_append_47 rfl (lv_at hl 3 rfl) ?_
    refine lv_iadd hx hb dX4_append_48 ?_
    obtain ⟨o11, h12, hf⟩ := gw_bind hf
    refine gw_Vv (As := [.int x1, .int (x4 + x3)]) (mc' := 0) (ms' := 0) F hW (mXX4_setSize_6 h12) (cwV 2 hts (gT_V q_5_46 q_5_48 qp_27 q_1_6 q_5_49) rfl rfl rfl hdX4_setSize ⟨Nat.le_of_ble_eq_true rfl, Nat.le_of_ble_eq_true rfl⟩) 6 4 (aX_6 (KP K q sd) σ) rfl rfl hl.1 rfl (Nat.le_of_ble_eq_true rfl) dX4_append_49 ⟨Nat.le_of_ble_eq_true rfl, Nat.le_of_ble_eq_true rfl⟩ rfl rfl (fun H locs hW => ?_)
    refine lv_aload_n hx hb dX4_append_52 rfl (lv_at hl 0 rfl) ?_
    refine lv_iload_n hx hb dX4_append_53 rfl (lv_at hl 1 rfl) ?_
    refine lv_iload hx hb dX4_append_54 (lv_at hl 4 rfl) ?_
    refine lv_sipush (v := (1024 : Int32)) hx hb dX4_append_56 (by decide) ?_
    refine lv_idiv hx hb dX4_append_59 (by decide) ?_
    obtain ⟨o14, h15, hf⟩ := gw_bind hf
    refine gw_Vi (As := [.int x1, .int (x4 / (1024 : Int32))]) (mc' := 0) (ms' := 0) F hW (mXX4_blockOf_6 h15) (cwV 2 hts (gT_V q_5_50 q_2_161 q_2_162 q_1_6 q_2_163) rfl rfl rfl hdX4_blockOf ⟨Nat.le_of_ble_eq_true rfl, Nat.le_of_ble_eq_true rfl⟩) 6 4 (aX_6 (KP K q sd) o11) rfl rfl hl.1 rfl (Nat.le_of_ble_eq_true rfl) dX4_append_60 ⟨Nat.le_of_ble_eq_true rfl, Nat.le_of_ble_eq_true rfl⟩ rfl rfl (fun H locs hW => ?_)
    refine lv_sipush (v := (1024 : Int32)) hx hb dX4_append_63 (by decide) ?_
    refine lv_imul hx hb dX4_append_66 ?_
    refine lv_istore (lv' := [(6, .int (o14.1 * (1024 : Int32))), (0, .ref (ka K 6)), (1, .int x1), (2, .ref q), (3, .int x3), (4, .int x4), (5, .int x5)]) hx hb dX4_append_67 hl (by decide) rfl (fun ls hl => ?_)
    refine lv_iconst (v := (0 : Int32)) hx hb dX4_append_69 (by decide) ?_
    refine lv_istore (lv' := [(7, .int (0 : Int32)), (6, .int (o14.1 * (1024 : Int32))), (0, .ref (ka K 6)), (1, .int x1), (2, .ref q), (3, .int x3), (4, .int x4), (5, .int x5)]) hx hb dX4_append_70 hl (by decide) rfl (fun ls hl => ?_)
    exact lfix_ind (P := PXX4_append_6_19_72 p l e s m args below meth c A K q sd) (fun k72 hk72 t o hf => wXX4_append_6_19_72 F hk72 t.1 t.2.1 t.2.2.1 t.2.2.2.1 t.2.2.2.2.1 t.2.2.2.2.2 o hf) FU _ _ hf _ _ _ (lv_sub hl [2, 3, 4, 5, 6, 1, 0] rfl) hW
  · replace hf := (if_neg c10).symm.trans hf
    refine lv_aload_n hx hb dX4_append_30 rfl (lv_at hl 0 rfl) ?_
    refine lv_iload_n hx hb dX4_append_31 rfl (lv_at hl 1 rfl) ?_
    refine lv_iload hx hb dX4_append_32 (lv_at hl 6 rfl) ?_
    obtain ⟨o28, h29, hf⟩ := gw_bind hf
    refine gw_Vv (As := [.int x1, .int x6]) (mc' := 0) (ms' := 0) F hW (mXX4_addBlock_6 h29) (cwV 2 hts (gT_V q_5_28 q_5_30 qp_24 q_1_6 q_5_31) rfl rfl rfl hdX4_addBlock ⟨Nat.le_of_ble_eq_true rfl, Nat.le_of_ble_eq_true rfl⟩) 6 4 (aX_6 (KP K q sd) σ) rfl rfl hl.1 rfl (Nat.le_of_ble_eq_true rfl) dX4_append_34 ⟨Nat.le_of_ble_eq_true rfl, Nat.le_of_ble_eq_true rfl⟩ rfl rfl (fun H locs hW => ?_)
    refine lv_iinc (v := (x6 + (1 : Int32))) (lv' := [(6, .int (x6 + (1 : Int32))), (0, .ref (ka K 6)), (1, .int x1), (2, .ref q), (3, .int x3), (4, .int x4), (5, .int x5)]) hx hb dX4_append_37 hl (k := 6) rfl rfl (by decide) rfl (fun ls hl => ?_)
    refine lv_goto (tgt := 23) hx hb dX4_append_40 (by decide) ?_
    exact hk23 _ _ hf _ _ _ (lv_sub hl [1, 2, 3, 4, 5, 6, 0] rfl) hW
set_option maxHeartbeats 4000000 in
set_option maxRecDepth 100000 in
theorem wXX4_append_6_19_0 {p : Program} {l : Launch} {e : Env} {s : State} {m : MethodId} {args : Array Value} {below : List Frame} {meth : Method} {c : Code} {A : Nat → Prop} {K : KX} {q : Nat} {sd : Int32} (F : fx_ p s m args meth c cX4_append 9 (some .int) RX4 wsX4_append) (x1 : Int32) (x3 : Int32) (σ : XS) (o : (Int32 × XS)) (hf : fXX4_append_6_19_0 (kn K) sd x1 x3 σ = some o) (H : Heap) (locs : List Loc) (ls : Array Slot) (hl : lv_has ls 9 [(0, .ref (ka K 6)), (1, .int x1), (2, .ref q), (3, .int x3)]) (hW : gw_ (kD (KP K q sd)) vwCl (tyX (KP K q sd)) (wX (KP K q sd)) A s σ H locs) : W p l e rXX4_append_6_19 s m args below meth c H locs 0 0 (MQ below (gw_Qi (kD (KP K q sd)) vwCl (tyX (KP K q sd)) (wX (KP K q sd)) A o) args s rXX4_append_6_19.cells rXX4_append_6_19.slots A) (F0 m 0 ls []) := by
  have hx := F.1
  have hb := F.2.1
  have hml := F.2.2.2.1
  have hown := F.2.2.2.2.1
  have hts := F.2.2.2.2.2.1
  have hG : ∀ x ∈ gT, x.before args s = true := fun x h => hts x (List.mem_cons_of_mem _ h)
  unfold fXX4_append_6_19_0 at hf
  refine lv_aload_n hx hb dX4_append_0 rfl (lv_at hl 0 rfl) ?_
  refine lv_iload_n hx hb dX4_append_1 rfl (lv_at hl 1 rfl) ?_
  obtain ⟨o1, h2, hf⟩ := gw_bind hf
  refine gw_Vi (As := [.int x1]) (mc' := 0) (ms' := 0) F hW (mXX4_size_6 h2) (cwV 1 hts (gT_V q_5_26 q_2_154 q_2_155 q_1_6 q_2_156) rfl rfl rfl hdX4_size ⟨Nat.le_of_ble_eq_true rfl, Nat.le_of_ble_eq_true rfl⟩) 6 4 (aX_6 (KP K q sd) σ) rfl rfl hl.1 rfl (Nat.le_of_ble_eq_true rfl) dX4_append_2 ⟨Nat.le_of_ble_eq_true rfl, Nat.le_of_ble_eq_true rfl⟩ rfl rfl (fun H locs hW => ?_)
  refine lv_istore (lv' := [(4, .int o1.1), (0, .ref (ka K 6)), (1, .int x1), (2, .ref q), (3, .int x3)]) hx hb dX4_append_5 hl (by decide) rfl (fun ls hl => ?_)
  refine lv_iload hx hb dX4_append_7 (lv_at hl 0 rfl) ?_
  refine lv_iload_n hx hb dX4_append_9 rfl (lv_at hl 4 rfl) ?_
  refine lv_iadd hx hb dX4_append_10 ?_
  obtain ⟨o4, h5, hf⟩ := gw_bind hf
  refine gw_Si (As := [.int (o1.1 + x3)]) (mc' := 0) (ms' := 0) F hW (mXX4_blocksFor h5) (va_cwS 1 hts (gT_S q_5_27 q_2_120 q_1_6 q_2_121) rfl rfl rfl hdX4_blocksFor.2 ⟨Nat.le_of_ble_eq_true rfl, Nat.le_of_ble_eq_true rfl⟩) rfl hl.1 rfl (Nat.le_of_ble_eq_true rfl) dX4_append_11 ⟨Nat.le_of_ble_eq_true rfl, Nat.le_of_ble_eq_true rfl⟩ rfl rfl (fun H locs hW => ?_)
  refine lv_istore (lv' := [(5, .int o4.1), (4, .int o1.1), (0, .ref (ka K 6)), (1, .int x1), (2, .ref q), (3, .int x3)]) hx hb dX4_append_14 hl (by decide) rfl (fun ls hl => ?_)
  refine lv_iload hx hb dX4_append_16 (lv_at hl 1 rfl) ?_
  obtain ⟨o7, h8, hf⟩ := gw_bind hf
  refine gw_Si (As := [.int o1.1]) (mc' := 0) (ms' := 0) F hW (mXX4_blocksFor h8) (va_cwS 1 hts (gT_S q_5_27 q_2_120 q_1_6 q_2_121) rfl rfl rfl hdX4_blocksFor.2 ⟨Nat.le_of_ble_eq_true rfl, Nat.le_of_ble_eq_true rfl⟩) rfl hl.1 rfl (Nat.le_of_ble_eq_true rfl) dX4_append_18 ⟨Nat.le_of_ble_eq_true rfl, Nat.le_of_ble_eq_true rfl⟩ rfl rfl (fun H locs hW => ?_)
  refine lv_istore (lv' := [(6, .int o7.1), (5, .int o4.1), (4, .int o1.1), (0, .ref (ka K 6)), (1, .int x1), (2, .ref q), (3, .int x3)]) hx hb dX4_append_21 hl (by decide) rfl (fun ls hl => ?_)
  exact lfix_ind (P := PXX4_append_6_19_23 p l e s m args below meth c A K q sd) (fun k23 hk23 t o hf => wXX4_append_6_19_23 F hk23 t.1 t.2.1 t.2.2.1 t.2.2.2.1 t.2.2.2.2.1 t.2.2.2.2.2 o hf) FU _ _ hf _ _ _ (lv_sub hl [3, 4, 5, 6, 2, 1, 0] rfl) hW
set_option maxHeartbeats 4000000 in
set_option maxRecDepth 100000 in
theorem mXX4_append_6_19 {l : Launch} {K : KX} {q : Nat} {sd : Int32} {σ : XS} {x1 : Int32} {x3 : Int32} {o : (Int32 × XS)} (hf : fXX4_append_6_19 (kn K) sd x1 x3 σ = some o) : gw_Mi l (kD (KP K q sd)) vwCl (tyX (KP K q sd)) (wX (KP K q sd)) yX4_append wsX4_append rXX4_append_6_19 [.ref (ka K 6), .int x1, .ref q, .int x3] σ o := by
  intro sz
  refine gw_body (cc := cX4_append) (maxL := 9) (yret := some .int) (by decide +kernel) rfl ?_ (Nat.le_of_ble_eq_true rfl)
  intro p e s m below meth c F hsz hW ls hl
  exact wXX4_append_6_19_0 F x1 x3 σ o hf s.heap [] ls hl hW
abbrev rXX3_giveBack_4 : Room := { frames := 2, cells := 0, slots := 0, locals := 52 }
set_option maxHeartbeats 4000000 in
set_option maxRecDepth 100000 in
theorem wXX3_giveBack_4_0 {p : Program} {l : Launch} {e : Env} {s : State} {m : MethodId} {args : Array Value} {below : List Frame} {meth : Method} {c : Code} {A : Nat → Prop} {K : KX} (F : fx_ p s m args meth c cX3_giveBack 2 none RX3 wsX3_giveBack) (x1 : Int32) (σ : XS) (o : XS) (hf : fXX3_giveBack_4_0 (kn K) x1 σ = some o) (H : Heap) (locs : List Loc) (ls : Array Slot) (hl : lv_has ls 2 [(0, .ref (ka K 4)), (1, .int x1)]) (hW : gw_ (kD K) vwCl (tyX K) (wX K) A s σ H locs) : W p l e rXX3_giveBack_4 s m args below meth c H locs 0 0 (MQ below (gw_Qv (kD K) vwCl (tyX K) (wX K) A o) args s rXX3_giveBack_4.cells rXX3_giveBack_4.slots A) (F0 m 0 ls []) := by
  have hx := F.1
  have hb := F.2.1
  have hml := F.2.2.2.1
  have hown := F.2.2.2.2.1
  have hts := F.2.2.2.2.2.1
  have hG : ∀ x ∈ gT, x.before args s = true := fun x h => hts x (List.mem_cons_of_mem _ h)
  unfold fXX3_giveBack_4_0 at hf
  refine lv_iload_n hx hb dX3_giveBack_0 rfl (lv_at hl 1 rfl) ?_
  refine lv_iconst (v := (1 : Int32)) hx hb dX3_giveBack_1 (by decide) ?_
  refine lv_icmp_lt (tgt := 19) hx hb dX3_giveBack_2 (by decide) (fun c1 => ?_) (fun c1 => ?_)
  · replace hf := (if_pos c1).symm.trans hf
    exact gw_retv F hW hf dX3_giveBack_19
  · replace hf := (if_neg c1).symm.trans hf
    refine lv_aload_n hx hb dX3_giveBack_5 rfl (lv_at hl 0 rfl) ?_
    refine lv_iload_n hx hb dX3_giveBack_6 rfl (lv_at hl 1 rfl) ?_
    obtain ⟨o2, h3, hf⟩ := gw_bind hf
    refine gw_Vz (As := [.int x1]) (mc' := 0) (ms' := 0) F hW (mXX3_isUsed_4 h3) (cwV 1 hts (gT_V q_6_75 q_2_48 q_2_49 q_1_5 q_2_50) rfl rfl rfl hdX3_isUsed ⟨Nat.le_of_ble_eq_true rfl, Nat.le_of_ble_eq_true rfl⟩) 4 3 (aX_4 K σ) rfl rfl hl.1 rfl (Nat.le_of_ble_eq_true rfl) dX3_giveBack_7 ⟨Nat.le_of_ble_eq_true rfl, Nat.le_of_ble_eq_true rfl⟩ rfl rfl (fun H locs z4 hW => ?_)
    refine lv_if_eq (tgt := 19) hx hb dX3_giveBack_10 (by decide) (fun c5 => ?_) (fun c5 => ?_)
    · replace hf := (if_pos c5).symm.trans hf
      exact gw_retv F hW hf dX3_giveBack_19
    · replace hf := (if_neg c5).symm.trans hf
      refine lv_aload_n hx hb dX3_giveBack_13 rfl (lv_at hl 0 rfl) ?_
      refine lv_iload_n hx hb dX3_giveBack_14 rfl (lv_at hl 1 rfl) ?_
      refine lv_iconst (v := (0 : Int32)) hx hb dX3_giveBack_15 (by decide) ?_
      obtain ⟨o6, h7, hf⟩ := gw_bind hf
      refine gw_Vv (As := [.int x1, .int (0 : Int32)]) (mc' := 0) (ms' := 0) F hW (mXX3_mark_4 h7) (cwV 2 hts (gT_V q_5_0 q_5_2 qp_23 q_1_5 q_5_3) rfl rfl rfl hdX3_mark ⟨Nat.le_of_ble_eq_true rfl, Nat.le_of_ble_eq_true rfl⟩) 4 3 (aX_4 K o2.2) rfl rfl hl.1 rfl (Nat.le_of_ble_eq_true rfl) dX3_giveBack_16 ⟨Nat.le_of_ble_eq_true rfl, Nat.le_of_ble_eq_true rfl⟩ rfl rfl (fun H locs hW => ?_)
      exact gw_retv F hW hf dX3_giveBack_19
set_option maxHeartbeats 4000000 in
set_option maxRecDepth 100000 in
theorem mXX3_giveBack_4 {l : Launch} {K : KX} {σ : XS} {x1 : Int32} {o : XS} (hf : fXX3_giveBack_4 (kn K) x1 σ = some o) : gw_Mv l (kD K) vwCl (tyX K) (wX K) yX3_giveBack wsX3_giveBack rXX3_giveBack_4 [.ref (ka K 4), .int x1] σ o := by
  intro sz
  refine gw_body (cc := cX3_giveBack) (maxL := 2) (yret := none) (by decide +kernel) rfl ?_ (Nat.le_of_ble_eq_true rfl)
  intro p e s m below meth c F hsz hW ls hl
  exact wXX3_giveBack_4_0 F x1 σ o hf s.heap [] ls hl hW
abbrev rXX4_lose_6 : Room := { frames := 3, cells := 0, slots := 0, locals := 73 }
set_option maxHeartbeats 4000000 in
set_option maxRecDepth 100000 in
theorem wXX4_lose_6_0 {p : Program} {l : Launch} {e : Env} {s : State} {m : MethodId} {args : Array Value} {below : List Frame} {meth : Method} {c : Code} {A : Nat → Prop} {K : KX} (F : fx_ p s m args meth c cX4_lose 3 none RX4 wsX4_lose) (x1 : Int32) (x2 : Int32) (σ : XS) (o : XS) (hf : fXX4_lose_6_0 (kn K) x1 x2 σ = some o) (H : Heap) (locs : List Loc) (ls : Array Slot) (hl : lv_has ls 3 [(0, .ref (ka K 6)), (1, .int x1), (2, .int x2)]) (hW : gw_ (kD K) vwCl (tyX K) (wX K) A s σ H locs) : W p l e rXX4_lose_6 s m args below meth c H locs 0 0 (MQ below (gw_Qv (kD K) vwCl (tyX K) (wX K) A o) args s rXX4_lose_6.cells rXX4_lose_6.slots A) (F0 m 0 ls []) := by
  have hx := F.1
  have hb := F.2.1
  have hml := F.2.2.2.1
  have hown := F.2.2.2.2.1
  have hts := F.2.2.2.2.2.1
  have hG : ∀ x ∈ gT, x.before args s = true := fun x h => hts x (List.mem_cons_of_mem _ h)
  unfold fXX4_lose_6_0 at hf
  refine lv_aload_n hx hb dX4_lose_0 rfl (lv_at hl 0 rfl) ?_
  refine gw_get (v := .ref (ka K 4)) F inc_X4 hW 6 4 2 (aX_6 K σ) rfl (by decide) (hG _ q_1_110) (fun _ h9 => h9) rfl dX4_lose_1 ?_
  refine lv_aload_n hx hb dX4_lose_4 rfl (lv_at hl 0 rfl) ?_
  refine gw_get (v := .ref (ka K 1)) F inc_X4 hW 6 4 0 (aX_6 K σ) rfl (by decide) (hG _ q_1_108) (fun _ h9 => h9) rfl dX4_lose_5 ?_
  refine lv_iload_n hx hb dX4_lose_8 rfl (lv_at hl 2 rfl) ?_
  obtain ⟨o1, h2, hf⟩ := gw_bind hf
  refine gw_Vi (As := [.int x2]) (mc' := 0) (ms' := 0) F hW (mXX1_get4_1 h2) (cwV 1 hts (gT_V q_2_157 q_2_114 q_2_115 q_1_3 q_2_116) rfl rfl rfl hdX1_get4 ⟨Nat.le_of_ble_eq_true rfl, Nat.le_of_ble_eq_true rfl⟩) 1 1 (aX_1 K σ) rfl rfl hl.1 rfl (Nat.le_of_ble_eq_true rfl) dX4_lose_9 ⟨Nat.le_of_ble_eq_true rfl, Nat.le_of_ble_eq_true rfl⟩ rfl rfl (fun H locs hW => ?_)
  obtain ⟨o4, h5, hf⟩ := gw_bind hf
  refine gw_Vv (As := [.int o1.1]) (mc' := 0) (ms' := 0) F hW (mXX3_giveBack_4 h5) (cwV 1 hts (gT_V q_6_71 q_6_72 q_6_73 q_1_5 q_6_74) rfl rfl rfl hdX3_giveBack ⟨Nat.le_of_ble_eq_true rfl, Nat.le_of_ble_eq_true rfl⟩) 4 3 (aX_4 K o1.2) rfl rfl hl.1 rfl (Nat.le_of_ble_eq_true rfl) dX4_lose_12 ⟨Nat.le_of_ble_eq_true rfl, Nat.le_of_ble_eq_true rfl⟩ rfl rfl (fun H locs hW => ?_)
  refine lv_aload_n hx hb dX4_lose_15 rfl (lv_at hl 0 rfl) ?_
  refine gw_get (v := .ref (ka K 1)) F inc_X4 hW 6 4 0 (aX_6 K o4) rfl (by decide) (hG _ q_1_108) (fun _ h9 => h9) rfl dX4_lose_16 ?_
  refine lv_iload_n hx hb dX4_lose_19 rfl (lv_at hl 2 rfl) ?_
  refine lv_iconst (v := (0 : Int32)) hx hb dX4_lose_20 (by decide) ?_
  obtain ⟨o7, h8, hf⟩ := gw_bind hf
  refine gw_Vv (As := [.int x2, .int (0 : Int32)]) (mc' := 0) (ms' := 0) F hW (mXX1_put4_1 h8) (cwV 2 hts (gT_V q_5_38 q_4_156 q_4_157 q_1_3 q_4_158) rfl rfl rfl hdX1_put4 ⟨Nat.le_of_ble_eq_true rfl, Nat.le_of_ble_eq_true rfl⟩) 1 1 (aX_1 K o4) rfl rfl hl.1 rfl (Nat.le_of_ble_eq_true rfl) dX4_lose_21 ⟨Nat.le_of_ble_eq_true rfl, Nat.le_of_ble_eq_true rfl⟩ rfl rfl (fun H locs hW => ?_)
  refine lv_aload_n hx hb dX4_lose_24 rfl (lv_at hl 0 rfl) ?_
  refine gw_get (v := .ref (ka K 1)) F inc_X4 hW 6 4 0 (aX_6 K o7) rfl (by decide) (hG _ q_1_108) (fun _ h9 => h9) rfl dX4_lose_25 ?_
  refine lv_iload_n hx hb dX4_lose_28 rfl (lv_at hl 1 rfl) ?_
  refine lv_bipush (v := (28 : Int32)) hx hb dX4_lose_29 (by decide) ?_
  refine lv_iadd hx hb dX4_lose_31 ?_
  refine lv_aload_n hx hb dX4_lose_32 rfl (lv_at hl 0 rfl) ?_
  refine gw_get (v := .ref (ka K 1)) F inc_X4 hW 6 4 0 (aX_6 K o7) rfl (by decide) (hG _ q_1_108) (fun _ h9 => h9) rfl dX4_lose_33 ?_
  refine lv_iload_n hx hb dX4_lose_36 rfl (lv_at hl 1 rfl) ?_
  refine lv_bipush (v := (28 : Int32)) hx hb dX4_lose_37 (by decide) ?_
  refine lv_iadd hx hb dX4_lose_39 ?_
  obtain ⟨o10, h11, hf⟩ := gw_bind hf
  refine gw_Vi (As := [.int (x1 + (28 : Int32))]) (mc' := 0) (ms' := 0) F hW (mXX1_get4_1 h11) (cwV 1 hts (gT_V q_2_157 q_2_114 q_2_115 q_1_3 q_2_116) rfl rfl rfl hdX1_get4 ⟨Nat.le_of_ble_eq_true rfl, Nat.le_of_ble_eq_true rfl⟩) 1 1 (aX_1 K o7) rfl rfl hl.1 rfl (Nat.le_of_ble_eq_true rfl) dX4_lose_40 ⟨Nat.le_of_ble_eq_true rfl, Nat.le_of_ble_eq_true rfl⟩ rfl rfl (fun H locs hW => ?_)
  refine lv_iconst (v := (2 : Int32)) hx hb dX4_lose_43 (by decide) ?_
  refine lv_isub hx hb dX4_lose_44 ?_
  obtain ⟨o13, h14, hf⟩ := gw_bind hf
  refine gw_Vv (As := [.int (x1 + (28 : Int32)), .int (o10.1 - (2 : Int32))]) (mc' := 0) (ms' := 0) F hW (mXX1_put4_1 h14) (cwV 2 hts (gT_V q_5_38 q_4_156 q_4_157 q_1_3 q_4_158) rfl rfl rfl hdX1_put4 ⟨Nat.le_of_ble_eq_true rfl, Nat.le_of_ble_eq_true rfl⟩) 1 1 (aX_1 K o10.2) rfl rfl hl.1 rfl (Nat.le_of_ble_eq_true rfl) dX4_lose_45 ⟨Nat.le_of_ble_eq_true rfl, Nat.le_of_ble_eq_true rfl⟩ rfl rfl (fun H locs hW => ?_)
  exact gw_retv F hW hf dX4_lose_48
set_option maxHeartbeats 4000000 in
set_option maxRecDepth 100000 in
theorem mXX4_lose_6 {l : Launch} {K : KX} {σ : XS} {x1 : Int32} {x2 : Int32} {o : XS} (hf : fXX4_lose_6 (kn K) x1 x2 σ = some o) : gw_Mv l (kD K) vwCl (tyX K) (wX K) yX4_lose wsX4_lose rXX4_lose_6 [.ref (ka K 6), .int x1, .int x2] σ o := by
  intro sz
  refine gw_body (cc := cX4_lose) (maxL := 3) (yret := none) (by decide +kernel) rfl ?_ (Nat.le_of_ble_eq_true rfl)
  intro p e s m below meth c F hsz hW ls hl
  exact wXX4_lose_6_0 F x1 x2 σ o hf s.heap [] ls hl hW
abbrev rXX4_dropBlock_6 : Room := { frames := 4, cells := 0, slots := 0, locals := 95 }
set_option maxHeartbeats 4000000 in
set_option maxRecDepth 100000 in
theorem wXX4_dropBlock_6_53 {p : Program} {l : Launch} {e : Env} {s : State} {m : MethodId} {args : Array Value} {below : List Frame} {meth : Method} {c : Code} {A : Nat → Prop} {K : KX} (F : fx_ p s m args meth c cX4_dropBlock 4 none RX4 wsX4_dropBlock) (x2 : Int32) (x3 : Int32) (σ : XS) (o : XS) (hf : fXX4_dropBlock_6_53 (kn K) x2 x3 σ = some o) (H : Heap) (locs : List Loc) (ls : Array Slot) (hl : lv_has ls 4 [(0, .ref (ka K 6)), (2, .int x2), (3, .int x3)]) (hW : gw_ (kD K) vwCl (tyX K) (wX K) A s σ H locs) : W p l e rXX4_dropBlock_6 s m args below meth c H locs 0 0 (MQ below (gw_Qv (kD K) vwCl (tyX K) (wX K) A o) args s rXX4_dropBlock_6.cells rXX4_dropBlock_6.slots A) (F0 m 53 ls []) := by
  have hx := F.1
  have hb := F.2.1
  have hml := F.2.2.2.1
  have hown := F.2.2.2.2.1
  have hts := F.2.2.2.2.2.1
  have hG : ∀ x ∈ gT, x.before args s = true := fun x h => hts x (List.mem_cons_of_mem _ h)
  unfold fXX4_dropBlock_6_53 at hf
  refine lv_iload_n hx hb dX4_dropBlock_53 rfl (lv_at hl 1 rfl) ?_
  refine lv_sipush (v := (268 : Int32)) hx hb dX4_dropBlock_54 (by decide) ?_
  refine lv_icmp_ne (tgt := 69) hx hb dX4_dropBlock_57 (by decide) (fun c15 => ?_) (fun c15 => ?_)
  · replace hf := (if_neg c15).symm.trans hf
    exact gw_retv F hW hf dX4_dropBlock_69
  · replace hf := (if_pos c15).symm.trans hf
    refine lv_aload_n hx hb dX4_dropBlock_60 rfl (lv_at hl 0 rfl) ?_
    refine lv_iload_n hx hb dX4_dropBlock_61 rfl (lv_at hl 2 rfl) ?_
    refine lv_iload_n hx hb dX4_dropBlock_62 rfl (lv_at hl 2 rfl) ?_
    refine lv_bipush (v := (92 : Int32)) hx hb dX4_dropBlock_63 (by decide) ?_
    refine lv_iadd hx hb dX4_dropBlock_65 ?_
    obtain ⟨o16, h17, hf⟩ := gw_bind hf
    refine gw_Vv (As := [.int x3, .int (x3 + (92 : Int32))]) (mc' := 0) (ms' := 0) F hW (mXX4_lose_6 h17) (cwV 2 hts (gT_V q_6_67 q_6_69 qp_34 q_1_6 q_6_70) rfl rfl rfl hdX4_lose ⟨Nat.le_of_ble_eq_true rfl, Nat.le_of_ble_eq_true rfl⟩) 6 4 (aX_6 K σ) rfl rfl hl.1 rfl (Nat.le_of_ble_eq_true rfl) dX4_dropBlock_66 ⟨Nat.le_of_ble_eq_true rfl, Nat.le_of_ble_eq_true rfl⟩ rfl rfl (fun H locs hW => ?_)
    exact gw_retv F hW hf dX4_dropBlock_69
set_option maxHeartbeats 4000000 in
set_option maxRecDepth 100000 in
theorem wXX4_dropBlock_6_35 {p : Program} {l : Launch} {e : Env} {s : State} {m : MethodId} {args : Array Value} {below : List Frame} {meth : Method} {c : Code} {A : Nat → Prop} {K : KX} (F : fx_ p s m args meth c cX4_dropBlock 4 none RX4 wsX4_dropBlock) (x2 : Int32) (x3 : Int32) (σ : XS) (o : XS) (hf : fXX4_dropBlock_6_35 (kn K) x2 x3 σ = some o) (H : Heap) (locs : List Loc) (ls : Array Slot) (hl : lv_has ls 4 [(0, .ref (ka K 6)), (2, .int x2), (3, .int x3)]) (hW : gw_ (kD K) vwCl (tyX K) (wX K) A s σ H locs) : W p l e rXX4_dropBlock_6 s m args below meth c H locs 0 0 (MQ below (gw_Qv (kD K) vwCl (tyX K) (wX K) A o) args s rXX4_dropBlock_6.cells rXX4_dropBlock_6.slots A) (F0 m 35 ls []) := by
  have hx := F.1
  have hb := F.2.1
  have hml := F.2.2.2.1
  have hown := F.2.2.2.2.1
  have hts := F.2.2.2.2.2.1
  have hG : ∀ x ∈ gT, x.before args s = true := fun x h => hts x (List.mem_cons_of_mem _ h)
  unfold fXX4_dropBlock_6_35 at hf
  refine lv_iload_n hx hb dX4_dropBlock_35 rfl (lv_at hl 1 rfl) ?_
  obtain ⟨o11, h12, hf⟩ := gw_bind hf
  refine gw_Sz (As := [.int x2]) (mc' := 0) (ms' := 0) F hW (mXX4_beginsRow h12) (va_cwS 1 hts (gT_S q_5_39 q_5_40 q_1_6 q_5_41) rfl rfl rfl hdX4_beginsRow.2 ⟨Nat.le_of_ble_eq_true rfl, Nat.le_of_ble_eq_true rfl⟩) rfl hl.1 rfl (Nat.le_of_ble_eq_true rfl) dX4_dropBlock_36 ⟨Nat.le_of_ble_eq_true rfl, Nat.le_of_ble_eq_true rfl⟩ rfl rfl (fun H locs z13 hW => ?_)
  refine lv_if_eq (tgt := 53) hx hb dX4_dropBlock_39 (by decide) (fun c14 => ?_) (fun c14 => ?_)
  · replace hf := (if_pos c14).symm.trans hf
    exact wXX4_dropBlock_6_53 F x2 x3 _ _ hf _ _ _ (lv_sub hl [0, 1, 2] rfl) hW
  · replace hf := (if_neg c14).symm.trans hf
    refine lv_aload_n hx hb dX4_dropBlock_42 rfl (lv_at hl 0 rfl) ?_
    refine lv_iload_n hx hb dX4_dropBlock_43 rfl (lv_at hl 2 rfl) ?_
    refine lv_aload_n hx hb dX4_dropBlock_44 rfl (lv_at hl 0 rfl) ?_
    refine lv_iload_n hx hb dX4_dropBlock_45 rfl (lv_at hl 2 rfl) ?_
    refine lv_iload_n hx hb dX4_dropBlock_46 rfl (lv_at hl 1 rfl) ?_
    obtain ⟨o19, h20, hf⟩ := gw_bind hf
    refine gw_Vi (As := [.int x3, .int x2]) (mc' := 0) (ms' := 0) F hW (mXX4_rowPointerAt_6 h20) (cwV 2 hts (gT_V q_5_42 q_5_44 qp_26 q_1_6 q_5_45) rfl rfl rfl hdX4_rowPointerAt ⟨Nat.le_of_ble_eq_true rfl, Nat.le_of_ble_eq_true rfl⟩) 6 4 (aX_6 K o11.2) rfl rfl hl.1 rfl (Nat.le_of_ble_eq_true rfl) dX4_dropBlock_47 ⟨Nat.le_of_ble_eq_true rfl, Nat.le_of_ble_eq_true rfl⟩ rfl rfl (fun H locs hW => ?_)
    obtain ⟨o22, h23, hf⟩ := gw_bind hf
    refine gw_Vv (As := [.int x3, .int o19.1]) (mc' := 0) (ms' := 0) F hW (mXX4_lose_6 h23) (cwV 2 hts (gT_V q_6_67 q_6_69 qp_34 q_1_6 q_6_70) rfl rfl rfl hdX4_lose ⟨Nat.le_of_ble_eq_true rfl, Nat.le_of_ble_eq_true rfl⟩) 6 4 (aX_6 K o19.2) rfl rfl hl.1 rfl (Nat.le_of_ble_eq_true rfl) dX4_dropBlock_50 ⟨Nat.le_of_ble_eq_true rfl, Nat.le_of_ble_eq_true rfl⟩ rfl rfl (fun H locs hW => ?_)
    exact wXX4_dropBlock_6_53 F x2 x3 _ _ hf _ _ _ (lv_sub hl [0, 1, 2] rfl) hW
set_option maxHeartbeats 4000000 in
set_option maxRecDepth 100000 in
theorem wXX4_dropBlock_6_0 {p : Program} {l : Launch} {e : Env} {s : State} {m : MethodId} {args : Array Value} {below : List Frame} {meth : Method} {c : Code} {A : Nat → Prop} {K : KX} (F : fx_ p s m args meth c cX4_dropBlock 4 none RX4 wsX4_dropBlock) (x1 : Int32) (x2 : Int32) (σ : XS) (o : XS) (hf : fXX4_dropBlock_6_0 (kn K) x1 x2 σ = some o) (H : Heap) (locs : List Loc) (ls : Array Slot) (hl : lv_has ls 4 [(0, .ref (ka K 6)), (1, .int x1), (2, .int x2)]) (hW : gw_ (kD K) vwCl (tyX K) (wX K) A s σ H locs) : W p l e rXX4_dropBlock_6 s m args below meth c H locs 0 0 (MQ below (gw_Qv (kD K) vwCl (tyX K) (wX K) A o) args s rXX4_dropBlock_6.cells rXX4_dropBlock_6.slots A) (F0 m 0 ls []) := by
  have hx := F.1
  have hb := F.2.1
  have hml := F.2.2.2.1
  have hown := F.2.2.2.2.1
  have hts := F.2.2.2.2.2.1
  have hG : ∀ x ∈ gT, x.before args s = true := fun x h => hts x (List.mem_cons_of_mem _ h)
  unfold fXX4_dropBlock_6_0 at hf
  refine lv_aload_n hx hb dX4_dropBlock_0 rfl (lv_at hl 0 rfl) ?_
  refine gw_get (v := .ref (ka K 3)) F inc_X4 hW 6 4 1 (aX_6 K σ) rfl (by decide) (hG _ q_1_109) (fun _ h9 => h9) rfl dX4_dropBlock_1 ?_
  refine lv_iload_n hx hb dX4_dropBlock_4 rfl (lv_at hl 1 rfl) ?_
  obtain ⟨o1, h2, hf⟩ := gw_bind hf
  refine gw_Vi (As := [.int x1]) (mc' := 0) (ms' := 0) F hW (mXX2_inodeAt_3 h2) (cwV 1 hts (gT_V q_2_147 q_2_101 q_2_102 q_1_4 q_2_103) rfl rfl rfl hdX2_inodeAt ⟨Nat.le_of_ble_eq_true rfl, Nat.le_of_ble_eq_true rfl⟩) 3 2 (aX_3 K σ) rfl rfl hl.1 rfl (Nat.le_of_ble_eq_true rfl) dX4_dropBlock_5 ⟨Nat.le_of_ble_eq_true rfl, Nat.le_of_ble_eq_true rfl⟩ rfl rfl (fun H locs hW => ?_)
  refine lv_istore_n (lv' := [(3, .int o1.1), (0, .ref (ka K 6)), (1, .int x1), (2, .int x2)]) hx hb dX4_dropBlock_8 rfl hl (by decide) rfl (fun ls hl => ?_)
  refine lv_aload_n hx hb dX4_dropBlock_9 rfl (lv_at hl 1 rfl) ?_
  refine lv_iload_n hx hb dX4_dropBlock_10 rfl (lv_at hl 0 rfl) ?_
  refine lv_aload_n hx hb dX4_dropBlock_11 rfl (lv_at hl 1 rfl) ?_
  refine lv_iload_n hx hb dX4_dropBlock_12 rfl (lv_at hl 0 rfl) ?_
  refine lv_iload_n hx hb dX4_dropBlock_13 rfl (lv_at hl 3 rfl) ?_
  obtain ⟨o4, h5, hf⟩ := gw_bind hf
  refine gw_Vi (As := [.int o1.1, .int x2]) (mc' := 0) (ms' := 0) F hW (mXX4_pointerAt_6 h5) (cwV 2 hts (gT_V q_2_164 q_2_166 qp_7 q_1_6 q_2_167) rfl rfl rfl hdX4_pointerAt ⟨Nat.le_of_ble_eq_true rfl, Nat.le_of_ble_eq_true rfl⟩) 6 4 (aX_6 K o1.2) rfl rfl hl.1 rfl (Nat.le_of_ble_eq_true rfl) dX4_dropBlock_14 ⟨Nat.le_of_ble_eq_true rfl, Nat.le_of_ble_eq_true rfl⟩ rfl rfl (fun H locs hW => ?_)
  obtain ⟨o7, h8, hf⟩ := gw_bind hf
  refine gw_Vv (As := [.int o1.1, .int o4.1]) (mc' := 0) (ms' := 0) F hW (mXX4_lose_6 h8) (cwV 2 hts (gT_V q_6_67 q_6_69 qp_34 q_1_6 q_6_70) rfl rfl rfl hdX4_lose ⟨Nat.le_of_ble_eq_true rfl, Nat.le_of_ble_eq_true rfl⟩) 6 4 (aX_6 K o4.2) rfl rfl hl.1 rfl (Nat.le_of_ble_eq_true rfl) dX4_dropBlock_17 ⟨Nat.le_of_ble_eq_true rfl, Nat.le_of_ble_eq_true rfl⟩ rfl rfl (fun H locs hW => ?_)
  refine lv_iload_n hx hb dX4_dropBlock_20 rfl (lv_at hl 3 rfl) ?_
  refine lv_bipush (v := (12 : Int32)) hx hb dX4_dropBlock_21 (by decide) ?_
  refine lv_icmp_ne (tgt := 35) hx hb dX4_dropBlock_23 (by decide) (fun c10 => ?_) (fun c10 => ?_)
  · replace hf := (if_neg c10).symm.trans hf
    exact wXX4_dropBlock_6_35 F x2 o1.1 _ _ hf _ _ _ (lv_sub hl [1, 3, 0] rfl) hW
  · replace hf := (if_pos c10).symm.trans hf
    refine lv_aload_n hx hb dX4_dropBlock_26 rfl (lv_at hl 1 rfl) ?_
    refine lv_iload_n hx hb dX4_dropBlock_27 rfl (lv_at hl 0 rfl) ?_
    refine lv_iload_n hx hb dX4_dropBlock_28 rfl (lv_at hl 0 rfl) ?_
    refine lv_bipush (v := (88 : Int32)) hx hb dX4_dropBlock_29 (by decide) ?_
    refine lv_iadd hx hb dX4_dropBlock_31 ?_
    obtain ⟨o25, h26, hf⟩ := gw_bind hf
    refine gw_Vv (As := [.int o1.1, .int (o1.1 + (88 : Int32))]) (mc' := 0) (ms' := 0) F hW (mXX4_lose_6 h26) (cwV 2 hts (gT_V q_6_67 q_6_69 qp_34 q_1_6 q_6_70) rfl rfl rfl hdX4_lose ⟨Nat.le_of_ble_eq_true rfl, Nat.le_of_ble_eq_true rfl⟩) 6 4 (aX_6 K o7) rfl rfl hl.1 rfl (Nat.le_of_ble_eq_true rfl) dX4_dropBlock_32 ⟨Nat.le_of_ble_eq_true rfl, Nat.le_of_ble_eq_true rfl⟩ rfl rfl (fun H locs hW => ?_)
    exact wXX4_dropBlock_6_35 F x2 o1.1 _ _ hf _ _ _ (lv_sub hl [1, 3, 0] rfl) hW
set_option maxHeartbeats 4000000 in
set_option maxRecDepth 100000 in
theorem mXX4_dropBlock_6 {l : Launch} {K : KX} {σ : XS} {x1 : Int32} {x2 : Int32} {o : XS} (hf : fXX4_dropBlock_6 (kn K) x1 x2 σ = some o) : gw_Mv l (kD K) vwCl (tyX K) (wX K) yX4_dropBlock wsX4_dropBlock rXX4_dropBlock_6 [.ref (ka K 6), .int x1, .int x2] σ o := by
  intro sz
  refine gw_body (cc := cX4_dropBlock) (maxL := 4) (yret := none) (by decide +kernel) rfl ?_ (Nat.le_of_ble_eq_true rfl)
  intro p e s m below meth c F hsz hW ls hl
  exact wXX4_dropBlock_6_0 F x1 x2 σ o hf s.heap [] ls hl hW
abbrev rXX4_shorten_6 : Room := { frames := 5, cells := 0, slots := 0, locals := 118 }
def PXX4_shorten_6_26 (p : Program) (l : Launch) (e : Env) (s : State) (m : MethodId) (args : Array Value) (below : List Frame) (meth : Method) (c : Code) (A : Nat → Prop) (K : KX) (t : (Int32 × Int32 × Int32 × Int32 × Int32 × XS)) (o : (Int32 × XS)) : Prop := ∀ (H : Heap) (locs : List Loc) (ls : Array Slot), lv_has ls 6 [(0, .ref (ka K 6)), (1, .int t.1), (2, .int t.2.1), (3, .int t.2.2.1), (4, .int t.2.2.2.1), (5, .int t.2.2.2.2.1)] → gw_ (kD K) vwCl (tyX K) (wX K) A s t.2.2.2.2.2 H locs → W p l e rXX4_shorten_6 s m args below meth c H locs 0 0 (MQ below (gw_Qi (kD K) vwCl (tyX K) (wX K) A o) args s rXX4_shorten_6.cells rXX4_shorten_6.slots A) (F0 m 26 ls [])
set_option maxHeartbeats 4000000 in
set_option maxRecDepth 100000 in
theorem wXX4_shorten_6_26 {p : Program} {l : Launch} {e : Env} {s : State} {m : MethodId} {args : Array Value} {below : List Frame} {meth : Method} {c : Code} {A : Nat → Prop} {K : KX} (F : fx_ p s m args meth c cX4_shorten 6 (some .int) RX4 wsX4_shorten) {k26 : (Int32 × Int32 × Int32 × Int32 × Int32 × XS) → Option (Int32 × XS)} (hk26 : ∀ t o, k26 t = some o → PXX4_shorten_6_26 p l e s m args below meth c A K t o) (x1 : Int32) (x2 : Int32) (x3 : Int32) (x4 : Int32) (x5 : Int32) (σ : XS) (o : (Int32 × XS)) (hf : fXX4_shorten_6_26 (kn K) k26 x1 x2 x3 x4 x5 σ = some o) (H : Heap) (locs : List Loc) (ls : Array Slot) (hl : lv_has ls 6 [(0, .ref (ka K 6)), (1, .int x1), (2, .int x2), (3, .int x3), (4, .int x4), (5, .int x5)]) (hW : gw_ (kD K) vwCl (tyX K) (wX K) A s σ H locs) : W p l e rXX4_shorten_6 s m args below meth c H locs 0 0 (MQ below (gw_Qi (kD K) vwCl (tyX K) (wX K) A o) args s rXX4_shorten_6.cells rXX4_shorten_6.slots A) (F0 m 26 ls []) := by
  have hx := F.1
  have hb := F.2.1
  have hml := F.2.2.2.1
  have hown := F.2.2.2.2.1
  have hts := F.2.2.2.2.2.1
  have hG : ∀ x ∈ gT, x.before args s = true := fun x h => hts x (List.mem_cons_of_mem _ h)
  unfold fXX4_shorten_6_26 at hf
  refine lv_iload hx hb dX4_shorten_26 (lv_at hl 5 rfl) ?_
  refine lv_iload hx hb dX4_shorten_28 (lv_at hl 4 rfl) ?_
  refine lv_icmp_lt (tgt := 46) hx hb dX4_shorten_30 (by decide) (fun c13 => ?_) (fun c13 => ?_)
  · replace hf := (if_pos c13).symm.trans hf
    refine lv_aload_n hx hb dX4_shorten_46 rfl (lv_at hl 0 rfl) ?_
    refine lv_iload_n hx hb dX4_shorten_47 rfl (lv_at hl 1 rfl) ?_
    refine lv_iload_n hx hb dX4_shorten_48 rfl (lv_at hl 2 rfl) ?_
    obtain ⟨o14, h15, hf⟩ := gw_bind hf
    refine gw_Vv (As := [.int x1, .int x2]) (mc' := 0) (ms' := 0) F hW (mXX4_setSize_6 h15) (cwV 2 hts (gT_V q_5_46 q_5_48 qp_27 q_1_6 q_5_49) rfl rfl rfl hdX4_setSize ⟨Nat.le_of_ble_eq_true rfl, Nat.le_of_ble_eq_true rfl⟩) 6 4 (aX_6 K σ) rfl rfl hl.1 rfl (Nat.le_of_ble_eq_true rfl) dX4_shorten_49 ⟨Nat.le_of_ble_eq_true rfl, Nat.le_of_ble_eq_true rfl⟩ rfl rfl (fun H locs hW => ?_)
    refine lv_aload_n hx hb dX4_shorten_52 rfl (lv_at hl 0 rfl) ?_
    refine gw_get (v := .ref (ka K 4)) F inc_X4 hW 6 4 2 (aX_6 K o14) rfl (by decide) (hG _ q_1_110) (fun _ h9 => h9) rfl dX4_shorten_53 ?_
    obtain ⟨o17, h18, hf⟩ := gw_bind hf
    refine gw_Vi (As := []) (mc' := 0) (ms' := 0) F hW (mXX3_free_4 h18) (cwV 0 hts (gT_V q_6_62 q_4_185 q_4_186 q_1_5 q_4_187) rfl rfl rfl hdX3_free ⟨Nat.le_of_ble_eq_true rfl, Nat.le_of_ble_eq_true rfl⟩) 4 3 (aX_4 K o14) rfl rfl hl.1 rfl (Nat.le_of_ble_eq_true rfl) dX4_shorten_56 ⟨Nat.le_of_ble_eq_true rfl, Nat.le_of_ble_eq_true rfl⟩ rfl rfl (fun H locs hW => ?_)
    refine lv_iload_n hx hb dX4_shorten_59 rfl (lv_at hl 3 rfl) ?_
    refine lv_isub hx hb dX4_shorten_60 ?_
    exact gw_reti F hW hf dX4_shorten_61
  · replace hf := (if_neg c13).symm.trans hf
    refine lv_aload_n hx hb dX4_shorten_33 rfl (lv_at hl 0 rfl) ?_
    refine lv_iload_n hx hb dX4_shorten_34 rfl (lv_at hl 1 rfl) ?_
    refine lv_iload hx hb dX4_shorten_35 (lv_at hl 5 rfl) ?_
    obtain ⟨o20, h21, hf⟩ := gw_bind hf
    refine gw_Vv (As := [.int x1, .int x5]) (mc' := 0) (ms' := 0) F hW (mXX4_dropBlock_6 h21) (cwV 2 hts (gT_V q_6_63 q_6_65 qp_33 q_1_6 q_6_66) rfl rfl rfl hdX4_dropBlock ⟨Nat.le_of_ble_eq_true rfl, Nat.le_of_ble_eq_true rfl⟩) 6 4 (aX_6 K σ) rfl rfl hl.1 rfl (Nat.le_of_ble_eq_true rfl) dX4_shorten_37 ⟨Nat.le_of_ble_eq_true rfl, Nat.le_of_ble_eq_true rfl⟩ rfl rfl (fun H locs hW => ?_)
    refine lv_iinc (v := (x5 + (-1 : Int32))) (lv' := [(5, .int (x5 + (-1 : Int32))), (0, .ref (ka K 6)), (1, .int x1), (2, .int x2), (3, .int x3), (4, .int x4)]) hx hb dX4_shorten_40 hl (k := 5) rfl rfl (by decide) rfl (fun ls hl => ?_)
    refine lv_goto (tgt := 26) hx hb dX4_shorten_43 (by decide) ?_
    exact hk26 _ _ hf _ _ _ (lv_sub hl [1, 2, 3, 4, 5, 0] rfl) hW
set_option maxHeartbeats 4000000 in
set_option maxRecDepth 100000 in
theorem wXX4_shorten_6_0 {p : Program} {l : Launch} {e : Env} {s : State} {m : MethodId} {args : Array Value} {below : List Frame} {meth : Method} {c : Code} {A : Nat → Prop} {K : KX} (F : fx_ p s m args meth c cX4_shorten 6 (some .int) RX4 wsX4_shorten) (x1 : Int32) (x2 : Int32) (σ : XS) (o : (Int32 × XS)) (hf : fXX4_shorten_6_0 (kn K) x1 x2 σ = some o) (H : Heap) (locs : List Loc) (ls : Array Slot) (hl : lv_has ls 6 [(0, .ref (ka K 6)), (1, .int x1), (2, .int x2)]) (hW : gw_ (kD K) vwCl (tyX K) (wX K) A s σ H locs) : W p l e rXX4_shorten_6 s m args below meth c H locs 0 0 (MQ below (gw_Qi (kD K) vwCl (tyX K) (wX K) A o) args s rXX4_shorten_6.cells rXX4_shorten_6.slots A) (F0 m 0 ls []) := by
  have hx := F.1
  have hb := F.2.1
  have hml := F.2.2.2.1
  have hown := F.2.2.2.2.1
  have hts := F.2.2.2.2.2.1
  have hG : ∀ x ∈ gT, x.before args s = true := fun x h => hts x (List.mem_cons_of_mem _ h)
  unfold fXX4_shorten_6_0 at hf
  refine lv_aload_n hx hb dX4_shorten_0 rfl (lv_at hl 0 rfl) ?_
  refine gw_get (v := .ref (ka K 4)) F inc_X4 hW 6 4 2 (aX_6 K σ) rfl (by decide) (hG _ q_1_110) (fun _ h9 => h9) rfl dX4_shorten_1 ?_
  obtain ⟨o1, h2, hf⟩ := gw_bind hf
  refine gw_Vi (As := []) (mc' := 0) (ms' := 0) F hW (mXX3_free_4 h2) (cwV 0 hts (gT_V q_6_62 q_4_185 q_4_186 q_1_5 q_4_187) rfl rfl rfl hdX3_free ⟨Nat.le_of_ble_eq_true rfl, Nat.le_of_ble_eq_true rfl⟩) 4 3 (aX_4 K σ) rfl rfl hl.1 rfl (Nat.le_of_ble_eq_true rfl) dX4_shorten_4 ⟨Nat.le_of_ble_eq_true rfl, Nat.le_of_ble_eq_true rfl⟩ rfl rfl (fun H locs hW => ?_)
  refine lv_istore_n (lv' := [(3, .int o1.1), (0, .ref (ka K 6)), (1, .int x1), (2, .int x2)]) hx hb dX4_shorten_7 rfl hl (by decide) rfl (fun ls hl => ?_)
  refine lv_iload_n hx hb dX4_shorten_8 rfl (lv_at hl 3 rfl) ?_
  obtain ⟨o4, h5, hf⟩ := gw_bind hf
  refine gw_Si (As := [.int x2]) (mc' := 0) (ms' := 0) F hW (mXX4_blocksFor h5) (va_cwS 1 hts (gT_S q_5_27 q_2_120 q_1_6 q_2_121) rfl rfl rfl hdX4_blocksFor.2 ⟨Nat.le_of_ble_eq_true rfl, Nat.le_of_ble_eq_true rfl⟩) rfl hl.1 rfl (Nat.le_of_ble_eq_true rfl) dX4_shorten_9 ⟨Nat.le_of_ble_eq_true rfl, Nat.le_of_ble_eq_true rfl⟩ rfl rfl (fun H locs hW => ?_)
  refine lv_istore (lv' := [(4, .int o4.1), (3, .int o1.1), (0, .ref (ka K 6)), (1, .int x1), (2, .int x2)]) hx hb dX4_shorten_12 hl (by decide) rfl (fun ls hl => ?_)
  refine lv_aload_n hx hb dX4_shorten_14 rfl (lv_at hl 2 rfl) ?_
  refine lv_iload_n hx hb dX4_shorten_15 rfl (lv_at hl 3 rfl) ?_
  obtain ⟨o7, h8, hf⟩ := gw_bind hf
  refine gw_Vi (As := [.int x1]) (mc' := 0) (ms' := 0) F hW (mXX4_size_6 h8) (cwV 1 hts (gT_V q_5_26 q_2_154 q_2_155 q_1_6 q_2_156) rfl rfl rfl hdX4_size ⟨Nat.le_of_ble_eq_true rfl, Nat.le_of_ble_eq_true rfl⟩) 6 4 (aX_6 K o4.2) rfl rfl hl.1 rfl (Nat.le_of_ble_eq_true rfl) dX4_shorten_16 ⟨Nat.le_of_ble_eq_true rfl, Nat.le_of_ble_eq_true rfl⟩ rfl rfl (fun H locs hW => ?_)
  obtain ⟨o10, h11, hf⟩ := gw_bind hf
  refine gw_Si (As := [.int o7.1]) (mc' := 0) (ms' := 0) F hW (mXX4_blocksFor h11) (va_cwS 1 hts (gT_S q_5_27 q_2_120 q_1_6 q_2_121) rfl rfl rfl hdX4_blocksFor.2 ⟨Nat.le_of_ble_eq_true rfl, Nat.le_of_ble_eq_true rfl⟩) rfl hl.1 rfl (Nat.le_of_ble_eq_true rfl) dX4_shorten_19 ⟨Nat.le_of_ble_eq_true rfl, Nat.le_of_ble_eq_true rfl⟩ rfl rfl (fun H locs hW => ?_)
  refine lv_iconst (v := (1 : Int32)) hx hb dX4_shorten_22 (by decide) ?_
  refine lv_isub hx hb dX4_shorten_23 ?_
  refine lv_istore (lv' := [(5, .int (o10.1 - (1 : Int32))), (4, .int o4.1), (3, .int o1.1), (0, .ref (ka K 6)), (1, .int x1), (2, .int x2)]) hx hb dX4_shorten_24 hl (by decide) rfl (fun ls hl => ?_)
  exact lfix_ind (P := PXX4_shorten_6_26 p l e s m args below meth c A K) (fun k26 hk26 t o hf => wXX4_shorten_6_26 F hk26 t.1 t.2.1 t.2.2.1 t.2.2.2.1 t.2.2.2.2.1 t.2.2.2.2.2 o hf) FU _ _ hf _ _ _ (lv_sub hl [3, 4, 5, 2, 1, 0] rfl) hW
set_option maxHeartbeats 4000000 in
set_option maxRecDepth 100000 in
theorem mXX4_shorten_6 {l : Launch} {K : KX} {σ : XS} {x1 : Int32} {x2 : Int32} {o : (Int32 × XS)} (hf : fXX4_shorten_6 (kn K) x1 x2 σ = some o) : gw_Mi l (kD K) vwCl (tyX K) (wX K) yX4_shorten wsX4_shorten rXX4_shorten_6 [.ref (ka K 6), .int x1, .int x2] σ o := by
  intro sz
  refine gw_body (cc := cX4_shorten) (maxL := 6) (yret := some .int) (by decide +kernel) rfl ?_ (Nat.le_of_ble_eq_true rfl)
  intro p e s m below meth c F hsz hW ls hl
  exact wXX4_shorten_6_0 F x1 x2 σ o hf s.heap [] ls hl hW
