abbrev rXX1_length_1 : Room := { frames := 0, cells := 0, slots := 0, locals := 0 }
set_option maxHeartbeats 4000000 in
set_option maxRecDepth 100000 in
theorem wXX1_length_1_0 {p : Program} {l : Launch} {e : Env} {s : State} {m : MethodId} {args : Array Value} {below : List Frame} {meth : Method} {c : Code} {A : Nat → Prop} {K : KX} (F : fx_ p s m args meth c cX1_length 1 (some .int) RX1 wsX1_length) (σ : XS) (o : (Int32 × XS)) (hf : fXX1_length_1_0 (kn K) σ = some o) (H : Heap) (locs : List Loc) (ls : Array Slot) (hl : lv_has ls 1 [(0, .ref (ka K 1))]) (hW : gw_ (kD K) vwCl (tyX K) (wX K) A s σ H locs) : W p l e rXX1_length_1 s m args below meth c H locs 0 0 (MQ below (gw_Qi (kD K) vwCl (tyX K) (wX K) A o) args s rXX1_length_1.cells rXX1_length_1.slots A) (F0 m 0 ls []) := by
  have hx := F.1
  have hb := F.2.1
  have hml := F.2.2.2.1
  have hown := F.2.2.2.2.1
  have hts := F.2.2.2.2.2.1
  have hG : ∀ x ∈ gT, x.before args s = true := fun x h => hts x (List.mem_cons_of_mem _ h)
  unfold fXX1_length_1_0 at hf
  refine lv_aload_n hx hb dX1_length_0 rfl (lv_at hl 0 rfl) ?_
  refine gw_get (v := .ref (ka K 2)) F inc_X1 hW 1 1 0 (aX_1 K σ) rfl (by decide) (hG _ q_1_53) (fun _ h9 => h9) rfl dX1_length_1 ?_
  refine gw_alen F hW 2 0 (aX_2 K σ) rfl dX1_length_4 ?_
  exact gw_reti F hW hf dX1_length_5
set_option maxHeartbeats 4000000 in
set_option maxRecDepth 100000 in
theorem mXX1_length_1 {l : Launch} {K : KX} {σ : XS} {o : (Int32 × XS)} (hf : fXX1_length_1 (kn K) σ = some o) : gw_Mi l (kD K) vwCl (tyX K) (wX K) yX1_length wsX1_length rXX1_length_1 [.ref (ka K 1)] σ o := by
  intro sz
  refine gw_body (cc := cX1_length) (maxL := 1) (yret := some .int) (by decide +kernel) rfl ?_ (Nat.le_of_ble_eq_true rfl)
  intro p e s m below meth c F hsz hW ls hl
  exact wXX1_length_1_0 F σ o hf s.heap [] ls hl hW
abbrev rXX1_get_1 : Room := { frames := 0, cells := 0, slots := 0, locals := 0 }
set_option maxHeartbeats 4000000 in
set_option maxRecDepth 100000 in
theorem wXX1_get_1_0 {p : Program} {l : Launch} {e : Env} {s : State} {m : MethodId} {args : Array Value} {below : List Frame} {meth : Method} {c : Code} {A : Nat → Prop} {K : KX} (F : fx_ p s m args meth c cX1_get 2 (some .int) RX1 wsX1_get) (x1 : Int32) (σ : XS) (o : (Int32 × XS)) (hf : fXX1_get_1_0 (kn K) x1 σ = some o) (H : Heap) (locs : List Loc) (ls : Array Slot) (hl : lv_has ls 2 [(0, .ref (ka K 1)), (1, .int x1)]) (hW : gw_ (kD K) vwCl (tyX K) (wX K) A s σ H locs) : W p l e rXX1_get_1 s m args below meth c H locs 0 0 (MQ below (gw_Qi (kD K) vwCl (tyX K) (wX K) A o) args s rXX1_get_1.cells rXX1_get_1.slots A) (F0 m 0 ls []) := by
  have hx := F.1
  have hb := F.2.1
  have hml := F.2.2.2.1
  have hown := F.2.2.2.2.1
  have hts := F.2.2.2.2.2.1
  have hG : ∀ x ∈ gT, x.before args s = true := fun x h => hts x (List.mem_cons_of_mem _ h)
  unfold fXX1_get_1_0 at hf
  refine lv_iload_n hx hb dX1_get_0 rfl (lv_at hl 1 rfl) ?_
  refine lv_if_lt (tgt := 26) hx hb dX1_get_1 (by decide) (fun c1 => ?_) (fun c1 => ?_)
  · replace hf := (if_pos c1).symm.trans hf
    refine lv_iconst (v := (0 : Int32)) hx hb dX1_get_26 (by decide) ?_
    exact gw_reti F hW hf dX1_get_27
  · replace hf := (if_neg c1).symm.trans hf
    refine lv_iload_n hx hb dX1_get_4 rfl (lv_at hl 1 rfl) ?_
    refine lv_aload_n hx hb dX1_get_5 rfl (lv_at hl 0 rfl) ?_
    refine gw_get (v := .ref (ka K 2)) F inc_X1 hW 1 1 0 (aX_1 K σ) rfl (by decide) (hG _ q_1_53) (fun _ h9 => h9) rfl dX1_get_6 ?_
    refine gw_alen F hW 2 0 (aX_2 K σ) rfl dX1_get_9 ?_
    refine lv_icmp_ge (tgt := 26) hx hb dX1_get_10 (by decide) (fun c2 => ?_) (fun c2 => ?_)
    · replace hf := (if_pos c2).symm.trans hf
      refine lv_iconst (v := (0 : Int32)) hx hb dX1_get_26 (by decide) ?_
      exact gw_reti F hW hf dX1_get_27
    · replace hf := (if_neg c2).symm.trans hf
      refine lv_aload_n hx hb dX1_get_13 rfl (lv_at hl 0 rfl) ?_
      refine gw_get (v := .ref (ka K 2)) F inc_X1 hW 1 1 0 (aX_1 K σ) rfl (by decide) (hG _ q_1_53) (fun _ h9 => h9) rfl dX1_get_14 ?_
      refine lv_iload_n hx hb dX1_get_17 rfl (lv_at hl 1 rfl) ?_
      rcases Decidable.em (x1 < 0 ∨ ((kn K) * 1024) ≤ x1.toNatClampNeg) with c3 | c3
      · replace hf := (if_pos c3).symm.trans hf
        exact absurd hf (by simp)
      · replace hf := (if_neg c3).symm.trans hf
        refine gw_bald F hW 2 0 (aX_2 K σ) rfl c3 dX1_get_18 ?_
        refine lv_sipush (v := (255 : Int32)) hx hb dX1_get_19 (by decide) ?_
        refine lv_iand hx hb dX1_get_22 ?_
        refine lv_goto (tgt := 27) hx hb dX1_get_23 (by decide) ?_
        exact gw_reti F hW hf dX1_get_27
set_option maxHeartbeats 4000000 in
set_option maxRecDepth 100000 in
theorem mXX1_get_1 {l : Launch} {K : KX} {σ : XS} {x1 : Int32} {o : (Int32 × XS)} (hf : fXX1_get_1 (kn K) x1 σ = some o) : gw_Mi l (kD K) vwCl (tyX K) (wX K) yX1_get wsX1_get rXX1_get_1 [.ref (ka K 1), .int x1] σ o := by
  intro sz
  refine gw_body (cc := cX1_get) (maxL := 2) (yret := some .int) (by decide +kernel) rfl ?_ (Nat.le_of_ble_eq_true rfl)
  intro p e s m below meth c F hsz hW ls hl
  exact wXX1_get_1_0 F x1 σ o hf s.heap [] ls hl hW
abbrev rXX1_put_1 : Room := { frames := 0, cells := 0, slots := 0, locals := 0 }
set_option maxHeartbeats 4000000 in
set_option maxRecDepth 100000 in
theorem wXX1_put_1_0 {p : Program} {l : Launch} {e : Env} {s : State} {m : MethodId} {args : Array Value} {below : List Frame} {meth : Method} {c : Code} {A : Nat → Prop} {K : KX} (F : fx_ p s m args meth c cX1_put 3 none RX1 wsX1_put) (x1 : Int32) (x2 : Int32) (σ : XS) (o : XS) (hf : fXX1_put_1_0 (kn K) x1 x2 σ = some o) (H : Heap) (locs : List Loc) (ls : Array Slot) (hl : lv_has ls 3 [(0, .ref (ka K 1)), (1, .int x1), (2, .int x2)]) (hW : gw_ (kD K) vwCl (tyX K) (wX K) A s σ H locs) : W p l e rXX1_put_1 s m args below meth c H locs 0 0 (MQ below (gw_Qv (kD K) vwCl (tyX K) (wX K) A o) args s rXX1_put_1.cells rXX1_put_1.slots A) (F0 m 0 ls []) := by
  have hx := F.1
  have hb := F.2.1
  have hml := F.2.2.2.1
  have hown := F.2.2.2.2.1
  have hts := F.2.2.2.2.2.1
  have hG : ∀ x ∈ gT, x.before args s = true := fun x h => hts x (List.mem_cons_of_mem _ h)
  unfold fXX1_put_1_0 at hf
  refine lv_iload_n hx hb dX1_put_0 rfl (lv_at hl 1 rfl) ?_
  refine lv_if_lt (tgt := 21) hx hb dX1_put_1 (by decide) (fun c1 => ?_) (fun c1 => ?_)
  · replace hf := (if_pos c1).symm.trans hf
    exact gw_retv F hW hf dX1_put_21
  · replace hf := (if_neg c1).symm.trans hf
    refine lv_iload_n hx hb dX1_put_4 rfl (lv_at hl 1 rfl) ?_
    refine lv_aload_n hx hb dX1_put_5 rfl (lv_at hl 0 rfl) ?_
    refine gw_get (v := .ref (ka K 2)) F inc_X1 hW 1 1 0 (aX_1 K σ) rfl (by decide) (hG _ q_1_53) (fun _ h9 => h9) rfl dX1_put_6 ?_
    refine gw_alen F hW 2 0 (aX_2 K σ) rfl dX1_put_9 ?_
    refine lv_icmp_ge (tgt := 21) hx hb dX1_put_10 (by decide) (fun c2 => ?_) (fun c2 => ?_)
    · replace hf := (if_pos c2).symm.trans hf
      exact gw_retv F hW hf dX1_put_21
    · replace hf := (if_neg c2).symm.trans hf
      refine lv_aload_n hx hb dX1_put_13 rfl (lv_at hl 0 rfl) ?_
      refine gw_get (v := .ref (ka K 2)) F inc_X1 hW 1 1 0 (aX_1 K σ) rfl (by decide) (hG _ q_1_53) (fun _ h9 => h9) rfl dX1_put_14 ?_
      refine lv_iload_n hx hb dX1_put_17 rfl (lv_at hl 1 rfl) ?_
      refine lv_iload_n hx hb dX1_put_18 rfl (lv_at hl 2 rfl) ?_
      refine lv_i2b (v := x2.toInt8.toInt32) hx hb dX1_put_19 rfl ?_
      rcases Decidable.em (x1 < 0 ∨ ((kn K) * 1024) ≤ x1.toNatClampNeg) with c3 | c3
      · replace hf := (if_pos c3).symm.trans hf
        exact absurd hf (by simp)
      · replace hf := (if_neg c3).symm.trans hf
        refine gw_bast (σ' := (stA σ 0 x1.toNatClampNeg (vp_nar .byte x2.toInt8.toInt32))) F hW 2 0 (aX_2 K σ) rfl c3 dX1_put_20 (sAX_0 _ _ _) (fun H locs hW => ?_)
        exact gw_retv F hW hf dX1_put_21
set_option maxHeartbeats 4000000 in
set_option maxRecDepth 100000 in
theorem mXX1_put_1 {l : Launch} {K : KX} {σ : XS} {x1 : Int32} {x2 : Int32} {o : XS} (hf : fXX1_put_1 (kn K) x1 x2 σ = some o) : gw_Mv l (kD K) vwCl (tyX K) (wX K) yX1_put wsX1_put rXX1_put_1 [.ref (ka K 1), .int x1, .int x2] σ o := by
  intro sz
  refine gw_body (cc := cX1_put) (maxL := 3) (yret := none) (by decide +kernel) rfl ?_ (Nat.le_of_ble_eq_true rfl)
  intro p e s m below meth c F hsz hW ls hl
  exact wXX1_put_1_0 F x1 x2 σ o hf s.heap [] ls hl hW
abbrev rXX1_get2_1 : Room := { frames := 0, cells := 0, slots := 0, locals := 0 }
set_option maxHeartbeats 4000000 in
set_option maxRecDepth 100000 in
theorem wXX1_get2_1_0 {p : Program} {l : Launch} {e : Env} {s : State} {m : MethodId} {args : Array Value} {below : List Frame} {meth : Method} {c : Code} {A : Nat → Prop} {K : KX} (F : fx_ p s m args meth c cX1_get2 2 (some .int) RX1 wsX1_get2) (x1 : Int32) (σ : XS) (o : (Int32 × XS)) (hf : fXX1_get2_1_0 (kn K) x1 σ = some o) (H : Heap) (locs : List Loc) (ls : Array Slot) (hl : lv_has ls 2 [(0, .ref (ka K 1)), (1, .int x1)]) (hW : gw_ (kD K) vwCl (tyX K) (wX K) A s σ H locs) : W p l e rXX1_get2_1 s m args below meth c H locs 0 0 (MQ below (gw_Qi (kD K) vwCl (tyX K) (wX K) A o) args s rXX1_get2_1.cells rXX1_get2_1.slots A) (F0 m 0 ls []) := by
  have hx := F.1
  have hb := F.2.1
  have hml := F.2.2.2.1
  have hown := F.2.2.2.2.1
  have hts := F.2.2.2.2.2.1
  have hG : ∀ x ∈ gT, x.before args s = true := fun x h => hts x (List.mem_cons_of_mem _ h)
  unfold fXX1_get2_1_0 at hf
  refine lv_iload_n hx hb dX1_get2_0 rfl (lv_at hl 1 rfl) ?_
  refine lv_if_lt (tgt := 15) hx hb dX1_get2_1 (by decide) (fun c1 => ?_) (fun c1 => ?_)
  · replace hf := (if_pos c1).symm.trans hf
    refine lv_iconst (v := (0 : Int32)) hx hb dX1_get2_15 (by decide) ?_
    exact gw_reti F hW hf dX1_get2_16
  · replace hf := (if_neg c1).symm.trans hf
    refine lv_iload_n hx hb dX1_get2_4 rfl (lv_at hl 1 rfl) ?_
    refine lv_aload_n hx hb dX1_get2_5 rfl (lv_at hl 0 rfl) ?_
    refine gw_get (v := .ref (ka K 2)) F inc_X1 hW 1 1 0 (aX_1 K σ) rfl (by decide) (hG _ q_1_53) (fun _ h9 => h9) rfl dX1_get2_6 ?_
    refine gw_alen F hW 2 0 (aX_2 K σ) rfl dX1_get2_9 ?_
    refine lv_iconst (v := (2 : Int32)) hx hb dX1_get2_10 (by decide) ?_
    refine lv_isub hx hb dX1_get2_11 ?_
    refine lv_icmp_le (tgt := 17) hx hb dX1_get2_12 (by decide) (fun c2 => ?_) (fun c2 => ?_)
    · replace hf := (if_pos c2).symm.trans hf
      refine lv_aload_n hx hb dX1_get2_17 rfl (lv_at hl 0 rfl) ?_
      refine gw_get (v := .ref (ka K 2)) F inc_X1 hW 1 1 0 (aX_1 K σ) rfl (by decide) (hG _ q_1_53) (fun _ h9 => h9) rfl dX1_get2_18 ?_
      refine lv_iload_n hx hb dX1_get2_21 rfl (lv_at hl 1 rfl) ?_
      rcases Decidable.em (x1 < 0 ∨ ((kn K) * 1024) ≤ x1.toNatClampNeg) with c3 | c3
      · replace hf := (if_pos c3).symm.trans hf
        exact absurd hf (by simp)
      · replace hf := (if_neg c3).symm.trans hf
        refine gw_bald F hW 2 0 (aX_2 K σ) rfl c3 dX1_get2_22 ?_
        refine lv_sipush (v := (255 : Int32)) hx hb dX1_get2_23 (by decide) ?_
        refine lv_iand hx hb dX1_get2_26 ?_
        refine lv_aload_n hx hb dX1_get2_27 rfl (lv_at hl 0 rfl) ?_
        refine gw_get (v := .ref (ka K 2)) F inc_X1 hW 1 1 0 (aX_1 K σ) rfl (by decide) (hG _ q_1_53) (fun _ h9 => h9) rfl dX1_get2_28 ?_
        refine lv_iload_n hx hb dX1_get2_31 rfl (lv_at hl 1 rfl) ?_
        refine lv_iconst (v := (1 : Int32)) hx hb dX1_get2_32 (by decide) ?_
        refine lv_iadd hx hb dX1_get2_33 ?_
        rcases Decidable.em ((x1 + (1 : Int32)) < 0 ∨ ((kn K) * 1024) ≤ (x1 + (1 : Int32)).toNatClampNeg) with c4 | c4
        · replace hf := (if_pos c4).symm.trans hf
          exact absurd hf (by simp)
        · replace hf := (if_neg c4).symm.trans hf
          refine gw_bald F hW 2 0 (aX_2 K σ) rfl c4 dX1_get2_34 ?_
          refine lv_sipush (v := (255 : Int32)) hx hb dX1_get2_35 (by decide) ?_
          refine lv_iand hx hb dX1_get2_38 ?_
          refine lv_bipush (v := (8 : Int32)) hx hb dX1_get2_39 (by decide) ?_
          refine lv_ishl hx hb dX1_get2_41 ?_
          refine lv_ior hx hb dX1_get2_42 ?_
          exact gw_reti F hW hf dX1_get2_43
    · replace hf := (if_neg c2).symm.trans hf
      refine lv_iconst (v := (0 : Int32)) hx hb dX1_get2_15 (by decide) ?_
      exact gw_reti F hW hf dX1_get2_16
set_option maxHeartbeats 4000000 in
set_option maxRecDepth 100000 in
theorem mXX1_get2_1 {l : Launch} {K : KX} {σ : XS} {x1 : Int32} {o : (Int32 × XS)} (hf : fXX1_get2_1 (kn K) x1 σ = some o) : gw_Mi l (kD K) vwCl (tyX K) (wX K) yX1_get2 wsX1_get2 rXX1_get2_1 [.ref (ka K 1), .int x1] σ o := by
  intro sz
  refine gw_body (cc := cX1_get2) (maxL := 2) (yret := some .int) (by decide +kernel) rfl ?_ (Nat.le_of_ble_eq_true rfl)
  intro p e s m below meth c F hsz hW ls hl
  exact wXX1_get2_1_0 F x1 σ o hf s.heap [] ls hl hW
abbrev rXX1_put2_1 : Room := { frames := 0, cells := 0, slots := 0, locals := 0 }
set_option maxHeartbeats 4000000 in
set_option maxRecDepth 100000 in
theorem wXX1_put2_1_0 {p : Program} {l : Launch} {e : Env} {s : State} {m : MethodId} {args : Array Value} {below : List Frame} {meth : Method} {c : Code} {A : Nat → Prop} {K : KX} (F : fx_ p s m args meth c cX1_put2 3 none RX1 wsX1_put2) (x1 : Int32) (x2 : Int32) (σ : XS) (o : XS) (hf : fXX1_put2_1_0 (kn K) x1 x2 σ = some o) (H : Heap) (locs : List Loc) (ls : Array Slot) (hl : lv_has ls 3 [(0, .ref (ka K 1)), (1, .int x1), (2, .int x2)]) (hW : gw_ (kD K) vwCl (tyX K) (wX K) A s σ H locs) : W p l e rXX1_put2_1 s m args below meth c H locs 0 0 (MQ below (gw_Qv (kD K) vwCl (tyX K) (wX K) A o) args s rXX1_put2_1.cells rXX1_put2_1.slots A) (F0 m 0 ls []) := by
  have hx := F.1
  have hb := F.2.1
  have hml := F.2.2.2.1
  have hown := F.2.2.2.2.1
  have hts := F.2.2.2.2.2.1
  have hG : ∀ x ∈ gT, x.before args s = true := fun x h => hts x (List.mem_cons_of_mem _ h)
  unfold fXX1_put2_1_0 at hf
  refine lv_iload_n hx hb dX1_put2_0 rfl (lv_at hl 1 rfl) ?_
  refine lv_if_lt (tgt := 36) hx hb dX1_put2_1 (by decide) (fun c1 => ?_) (fun c1 => ?_)
  · replace hf := (if_pos c1).symm.trans hf
    exact gw_retv F hW hf dX1_put2_36
  · replace hf := (if_neg c1).symm.trans hf
    refine lv_iload_n hx hb dX1_put2_4 rfl (lv_at hl 1 rfl) ?_
    refine lv_aload_n hx hb dX1_put2_5 rfl (lv_at hl 0 rfl) ?_
    refine gw_get (v := .ref (ka K 2)) F inc_X1 hW 1 1 0 (aX_1 K σ) rfl (by decide) (hG _ q_1_53) (fun _ h9 => h9) rfl dX1_put2_6 ?_
    refine gw_alen F hW 2 0 (aX_2 K σ) rfl dX1_put2_9 ?_
    refine lv_iconst (v := (2 : Int32)) hx hb dX1_put2_10 (by decide) ?_
    refine lv_isub hx hb dX1_put2_11 ?_
    refine lv_icmp_gt (tgt := 36) hx hb dX1_put2_12 (by decide) (fun c2 => ?_) (fun c2 => ?_)
    · replace hf := (if_pos c2).symm.trans hf
      exact gw_retv F hW hf dX1_put2_36
    · replace hf := (if_neg c2).symm.trans hf
      refine lv_aload_n hx hb dX1_put2_15 rfl (lv_at hl 0 rfl) ?_
      refine gw_get (v := .ref (ka K 2)) F inc_X1 hW 1 1 0 (aX_1 K σ) rfl (by decide) (hG _ q_1_53) (fun _ h9 => h9) rfl dX1_put2_16 ?_
      refine lv_iload_n hx hb dX1_put2_19 rfl (lv_at hl 1 rfl) ?_
      refine lv_iload_n hx hb dX1_put2_20 rfl (lv_at hl 2 rfl) ?_
      refine lv_i2b (v := x2.toInt8.toInt32) hx hb dX1_put2_21 rfl ?_
      rcases Decidable.em (x1 < 0 ∨ ((kn K) * 1024) ≤ x1.toNatClampNeg) with c3 | c3
      · replace hf := (if_pos c3).symm.trans hf
        exact absurd hf (by simp)
      · replace hf := (if_neg c3).symm.trans hf
        refine gw_bast (σ' := (stA σ 0 x1.toNatClampNeg (vp_nar .byte x2.toInt8.toInt32))) F hW 2 0 (aX_2 K σ) rfl c3 dX1_put2_22 (sAX_0 _ _ _) (fun H locs hW => ?_)
        refine lv_aload_n hx hb dX1_put2_23 rfl (lv_at hl 0 rfl) ?_
        refine gw_get (v := .ref (ka K 2)) F inc_X1 hW 1 1 0 (aX_1 K (stA σ 0 x1.toNatClampNeg (vp_nar .byte x2.toInt8.toInt32))) rfl (by decide) (hG _ q_1_53) (fun _ h9 => h9) rfl dX1_put2_24 ?_
        refine lv_iload_n hx hb dX1_put2_27 rfl (lv_at hl 1 rfl) ?_
        refine lv_iconst (v := (1 : Int32)) hx hb dX1_put2_28 (by decide) ?_
        refine lv_iadd hx hb dX1_put2_29 ?_
        refine lv_iload_n hx hb dX1_put2_30 rfl (lv_at hl 2 rfl) ?_
        refine lv_bipush (v := (8 : Int32)) hx hb dX1_put2_31 (by decide) ?_
        refine lv_ishr hx hb dX1_put2_33 ?_
        refine lv_i2b (v := (x2 >>> ((8 : Int32) &&& 31)).toInt8.toInt32) hx hb dX1_put2_34 rfl ?_
        rcases Decidable.em ((x1 + (1 : Int32)) < 0 ∨ ((kn K) * 1024) ≤ (x1 + (1 : Int32)).toNatClampNeg) with c4 | c4
        · replace hf := (if_pos c4).symm.trans hf
          exact absurd hf (by simp)
        · replace hf := (if_neg c4).symm.trans hf
          refine gw_bast (σ' := (stA (stA σ 0 x1.toNatClampNeg (vp_nar .byte x2.toInt8.toInt32)) 0 (x1 + (1 : Int32)).toNatClampNeg (vp_nar .byte ((x2 >>> ((8 : Int32) &&& 31)).toInt8.toInt32)))) F hW 2 0 (aX_2 K (stA σ 0 x1.toNatClampNeg (vp_nar .byte x2.toInt8.toInt32))) rfl c4 dX1_put2_35 (sAX_0 _ _ _) (fun H locs hW => ?_)
          exact gw_retv F hW hf dX1_put2_36
set_option maxHeartbeats 4000000 in
set_option maxRecDepth 100000 in
theorem mXX1_put2_1 {l : Launch} {K : KX} {σ : XS} {x1 : Int32} {x2 : Int32} {o : XS} (hf : fXX1_put2_1 (kn K) x1 x2 σ = some o) : gw_Mv l (kD K) vwCl (tyX K) (wX K) yX1_put2 wsX1_put2 rXX1_put2_1 [.ref (ka K 1), .int x1, .int x2] σ o := by
  intro sz
  refine gw_body (cc := cX1_put2) (maxL := 3) (yret := none) (by decide +kernel) rfl ?_ (Nat.le_of_ble_eq_true rfl)
  intro p e s m below meth c F hsz hW ls hl
  exact wXX1_put2_1_0 F x1 x2 σ o hf s.heap [] ls hl hW
abbrev rXX1_get4_1 : Room := { frames := 0, cells := 0, slots := 0, locals := 0 }
set_option maxHeartbeats 4000000 in
set_option maxRecDepth 100000 in
theorem wXX1_get4_1_0 {p : Program} {l : Launch} {e : Env} {s : State} {m : MethodId} {args : Array Value} {below : List Frame} {meth : Method} {c : Code} {A : Nat → Prop} {K : KX} (F : fx_ p s m args meth c cX1_get4 2 (some .int) RX1 wsX1_get4) (x1 : Int32) (σ : XS) (o : (Int32 × XS)) (hf : fXX1_get4_1_0 (kn K) x1 σ = some o) (H : Heap) (locs : List Loc) (ls : Array Slot) (hl : lv_has ls 2 [(0, .ref (ka K 1)), (1, .int x1)]) (hW : gw_ (kD K) vwCl (tyX K) (wX K) A s σ H locs) : W p l e rXX1_get4_1 s m args below meth c H locs 0 0 (MQ below (gw_Qi (kD K) vwCl (tyX K) (wX K) A o) args s rXX1_get4_1.cells rXX1_get4_1.slots A) (F0 m 0 ls []) := by
  have hx := F.1
  have hb := F.2.1
  have hml := F.2.2.2.1
  have hown := F.2.2.2.2.1
  have hts := F.2.2.2.2.2.1
  have hG : ∀ x ∈ gT, x.before args s = true := fun x h => hts x (List.mem_cons_of_mem _ h)
  unfold fXX1_get4_1_0 at hf
  refine lv_iload_n hx hb dX1_get4_0 rfl (lv_at hl 1 rfl) ?_
  refine lv_if_lt (tgt := 15) hx hb dX1_get4_1 (by decide) (fun c1 => ?_) (fun c1 => ?_)
  · replace hf := (if_pos c1).symm.trans hf
    refine lv_iconst (v := (0 : Int32)) hx hb dX1_get4_15 (by decide) ?_
    exact gw_reti F hW hf dX1_get4_16
  · replace hf := (if_neg c1).symm.trans hf
    refine lv_iload_n hx hb dX1_get4_4 rfl (lv_at hl 1 rfl) ?_
    refine lv_aload_n hx hb dX1_get4_5 rfl (lv_at hl 0 rfl) ?_
    refine gw_get (v := .ref (ka K 2)) F inc_X1 hW 1 1 0 (aX_1 K σ) rfl (by decide) (hG _ q_1_53) (fun _ h9 => h9) rfl dX1_get4_6 ?_
    refine gw_alen F hW 2 0 (aX_2 K σ) rfl dX1_get4_9 ?_
    refine lv_iconst (v := (4 : Int32)) hx hb dX1_get4_10 (by decide) ?_
    refine lv_isub hx hb dX1_get4_11 ?_
    refine lv_icmp_le (tgt := 17) hx hb dX1_get4_12 (by decide) (fun c2 => ?_) (fun c2 => ?_)
    · replace hf := (if_pos c2).symm.trans hf
      refine lv_aload_n hx hb dX1_get4_17 rfl (lv_at hl 0 rfl) ?_
      refine gw_get (v := .ref (ka K 2)) F inc_X1 hW 1 1 0 (aX_1 K σ) rfl (by decide) (hG _ q_1_53) (fun _ h9 => h9) rfl dX1_get4_18 ?_
      refine lv_iload_n hx hb dX1_get4_21 rfl (lv_at hl 1 rfl) ?_
      rcases Decidable.em (x1 < 0 ∨ ((kn K) * 1024) ≤ x1.toNatClampNeg) with c3 | c3
      · replace hf := (if_pos c3).symm.trans hf
        exact absurd hf (by simp)
      · replace hf := (if_neg c3).symm.trans hf
        refine gw_bald F hW 2 0 (aX_2 K σ) rfl c3 dX1_get4_22 ?_
        refine lv_sipush (v := (255 : Int32)) hx hb dX1_get4_23 (by decide) ?_
        refine lv_iand hx hb dX1_get4_26 ?_
        refine lv_aload_n hx hb dX1_get4_27 rfl (lv_at hl 0 rfl) ?_
        refine gw_get (v := .ref (ka K 2)) F inc_X1 hW 1 1 0 (aX_1 K σ) rfl (by decide) (hG _ q_1_53) (fun _ h9 => h9) rfl dX1_get4_28 ?_
        refine lv_iload_n hx hb dX1_get4_31 rfl (lv_at hl 1 rfl) ?_
        refine lv_iconst (v := (1 : Int32)) hx hb dX1_get4_32 (by decide) ?_
        refine lv_iadd hx hb dX1_get4_33 ?_
        rcases Decidable.em ((x1 + (1 : Int32)) < 0 ∨ ((kn K) * 1024) ≤ (x1 + (1 : Int32)).toNatClampNeg) with c4 | c4
        · replace hf := (if_pos c4).symm.trans hf
          exact absurd hf (by simp)
        · replace hf := (if_neg c4).symm.trans hf
          refine gw_bald F hW 2 0 (aX_2 K σ) rfl c4 dX1_get4_34 ?_
          refine lv_sipush (v := (255 : Int32)) hx hb dX1_get4_35 (by decide) ?_
          refine lv_iand hx hb dX1_get4_38 ?_
          refine lv_bipush (v := (8 : Int32)) hx hb dX1_get4_39 (by decide) ?_
          refine lv_ishl hx hb dX1_get4_41 ?_
          refine lv_ior hx hb dX1_get4_42 ?_
          refine lv_aload_n hx hb dX1_get4_43 rfl (lv_at hl 0 rfl) ?_
          refine gw_get (v := .ref (ka K 2)) F inc_X1 hW 1 1 0 (aX_1 K σ) rfl (by decide) (hG _ q_1_53) (fun _ h9 => h9) rfl dX1_get4_44 ?_
          refine lv_iload_n hx hb dX1_get4_47 rfl (lv_at hl 1 rfl) ?_
          refine lv_iconst (v := (2 : Int32)) hx hb dX1_get4_48 (by decide) ?_
          refine lv_iadd hx hb dX1_get4_49 ?_
          rcases Decidable.em ((x1 + (2 : Int32)) < 0 ∨ ((kn K) * 1024) ≤ (x1 + (2 : Int32)).toNatClampNeg) with c5 | c5
          · replace hf := (if_pos c5).symm.trans hf
            exact absurd hf (by simp)
          · replace hf := (if_neg c5).symm.trans hf
            refine gw_bald F hW 2 0 (aX_2 K σ) rfl c5 dX1_get4_50 ?_
            refine lv_sipush (v := (255 : Int32)) hx hb dX1_get4_51 (by decide) ?_
            refine lv_iand hx hb dX1_get4_54 ?_
            refine lv_bipush (v := (16 : Int32)) hx hb dX1_get4_55 (by decide) ?_
            refine lv_ishl hx hb dX1_get4_57 ?_
            refine lv_ior hx hb dX1_get4_58 ?_
            refine lv_aload_n hx hb dX1_get4_59 rfl (lv_at hl 0 rfl) ?_
            refine gw_get (v := .ref (ka K 2)) F inc_X1 hW 1 1 0 (aX_1 K σ) rfl (by decide) (hG _ q_1_53) (fun _ h9 => h9) rfl dX1_get4_60 ?_
            refine lv_iload_n hx hb dX1_get4_63 rfl (lv_at hl 1 rfl) ?_
            refine lv_iconst (v := (3 : Int32)) hx hb dX1_get4_64 (by decide) ?_
            refine lv_iadd hx hb dX1_get4_65 ?_
            rcases Decidable.em ((x1 + (3 : Int32)) < 0 ∨ ((kn K) * 1024) ≤ (x1 + (3 : Int32)).toNatClampNeg) with c6 | c6
            · replace hf := (if_pos c6).symm.trans hf
              exact absurd hf (by simp)
            · replace hf := (if_neg c6).symm.trans hf
              refine gw_bald F hW 2 0 (aX_2 K σ) rfl c6 dX1_get4_66 ?_
              refine lv_sipush (v := (255 : Int32)) hx hb dX1_get4_67 (by decide) ?_
              refine lv_iand hx hb dX1_get4_70 ?_
              refine lv_bipush (v := (24 : Int32)) hx hb dX1_get4_71 (by decide) ?_
              refine lv_ishl hx hb dX1_get4_73 ?_
              refine lv_ior hx hb dX1_get4_74 ?_
              exact gw_reti F hW hf dX1_get4_75
    · replace hf := (if_neg c2).symm.trans hf
      refine lv_iconst (v := (0 : Int32)) hx hb dX1_get4_15 (by decide) ?_
      exact gw_reti F hW hf dX1_get4_16
set_option maxHeartbeats 4000000 in
set_option maxRecDepth 100000 in
theorem mXX1_get4_1 {l : Launch} {K : KX} {σ : XS} {x1 : Int32} {o : (Int32 × XS)} (hf : fXX1_get4_1 (kn K) x1 σ = some o) : gw_Mi l (kD K) vwCl (tyX K) (wX K) yX1_get4 wsX1_get4 rXX1_get4_1 [.ref (ka K 1), .int x1] σ o := by
  intro sz
  refine gw_body (cc := cX1_get4) (maxL := 2) (yret := some .int) (by decide +kernel) rfl ?_ (Nat.le_of_ble_eq_true rfl)
  intro p e s m below meth c F hsz hW ls hl
  exact wXX1_get4_1_0 F x1 σ o hf s.heap [] ls hl hW
abbrev rXX1_put4_1 : Room := { frames := 0, cells := 0, slots := 0, locals := 0 }
set_option maxHeartbeats 4000000 in
set_option maxRecDepth 100000 in
theorem wXX1_put4_1_0 {p : Program} {l : Launch} {e : Env} {s : State} {m : MethodId} {args : Array Value} {below : List Frame} {meth : Method} {c : Code} {A : Nat → Prop} {K : KX} (F : fx_ p s m args meth c cX1_put4 3 none RX1 wsX1_put4) (x1 : Int32) (x2 : Int32) (σ : XS) (o : XS) (hf : fXX1_put4_1_0 (kn K) x1 x2 σ = some o) (H : Heap) (locs : List Loc) (ls : Array Slot) (hl : lv_has ls 3 [(0, .ref (ka K 1)), (1, .int x1), (2, .int x2)]) (hW : gw_ (kD K) vwCl (tyX K) (wX K) A s σ H locs) : W p l e rXX1_put4_1 s m args below meth c H locs 0 0 (MQ below (gw_Qv (kD K) vwCl (tyX K) (wX K) A o) args s rXX1_put4_1.cells rXX1_put4_1.slots A) (F0 m 0 ls []) := by
  have hx := F.1
  have hb := F.2.1
  have hml := F.2.2.2.1
  have hown := F.2.2.2.2.1
  have hts := F.2.2.2.2.2.1
  have hG : ∀ x ∈ gT, x.before args s = true := fun x h => hts x (List.mem_cons_of_mem _ h)
  unfold fXX1_put4_1_0 at hf
  refine lv_iload_n hx hb dX1_put4_0 rfl (lv_at hl 1 rfl) ?_
  refine lv_if_lt (tgt := 62) hx hb dX1_put4_1 (by decide) (fun c1 => ?_) (fun c1 => ?_)
  · replace hf := (if_pos c1).symm.trans hf
    exact gw_retv F hW hf dX1_put4_62
  · replace hf := (if_neg c1).symm.trans hf
    refine lv_iload_n hx hb dX1_put4_4 rfl (lv_at hl 1 rfl) ?_
    refine lv_aload_n hx hb dX1_put4_5 rfl (lv_at hl 0 rfl) ?_
    refine gw_get (v := .ref (ka K 2)) F inc_X1 hW 1 1 0 (aX_1 K σ) rfl (by decide) (hG _ q_1_53) (fun _ h9 => h9) rfl dX1_put4_6 ?_
    refine gw_alen F hW 2 0 (aX_2 K σ) rfl dX1_put4_9 ?_
    refine lv_iconst (v := (4 : Int32)) hx hb dX1_put4_10 (by decide) ?_
    refine lv_isub hx hb dX1_put4_11 ?_
    refine lv_icmp_gt (tgt := 62) hx hb dX1_put4_12 (by decide) (fun c2 => ?_) (fun c2 => ?_)
    · replace hf := (if_pos c2).symm.trans hf
      exact gw_retv F hW hf dX1_put4_62
    · replace hf := (if_neg c2).symm.trans hf
      refine lv_aload_n hx hb dX1_put4_15 rfl (lv_at hl 0 rfl) ?_
      refine gw_get (v := .ref (ka K 2)) F inc_X1 hW 1 1 0 (aX_1 K σ) rfl (by decide) (hG _ q_1_53) (fun _ h9 => h9) rfl dX1_put4_16 ?_
      refine lv_iload_n hx hb dX1_put4_19 rfl (lv_at hl 1 rfl) ?_
      refine lv_iload_n hx hb dX1_put4_20 rfl (lv_at hl 2 rfl) ?_
      refine lv_i2b (v := x2.toInt8.toInt32) hx hb dX1_put4_21 rfl ?_
      rcases Decidable.em (x1 < 0 ∨ ((kn K) * 1024) ≤ x1.toNatClampNeg) with c3 | c3
      · replace hf := (if_pos c3).symm.trans hf
        exact absurd hf (by simp)
      · replace hf := (if_neg c3).symm.trans hf
        refine gw_bast (σ' := (stA σ 0 x1.toNatClampNeg (vp_nar .byte x2.toInt8.toInt32))) F hW 2 0 (aX_2 K σ) rfl c3 dX1_put4_22 (sAX_0 _ _ _) (fun H locs hW => ?_)
        refine lv_aload_n hx hb dX1_put4_23 rfl (lv_at hl 0 rfl) ?_
        refine gw_get (v := .ref (ka K 2)) F inc_X1 hW 1 1 0 (aX_1 K (stA σ 0 x1.toNatClampNeg (vp_nar .byte x2.toInt8.toInt32))) rfl (by decide) (hG _ q_1_53) (fun _ h9 => h9) rfl dX1_put4_24 ?_
        refine lv_iload_n hx hb dX1_put4_27 rfl (lv_at hl 1 rfl) ?_
        refine lv_iconst (v := (1 : Int32)) hx hb dX1_put4_28 (by decide) ?_
        refine lv_iadd hx hb dX1_put4_29 ?_
        refine lv_iload_n hx hb dX1_put4_30 rfl (lv_at hl 2 rfl) ?_
        refine lv_bipush (v := (8 : Int32)) hx hb dX1_put4_31 (by decide) ?_
        refine lv_ishr hx hb dX1_put4_33 ?_
        refine lv_i2b (v := (x2 >>> ((8 : Int32) &&& 31)).toInt8.toInt32) hx hb dX1_put4_34 rfl ?_
        rcases Decidable.em ((x1 + (1 : Int32)) < 0 ∨ ((kn K) * 1024) ≤ (x1 + (1 : Int32)).toNatClampNeg) with c4 | c4
        · replace hf := (if_pos c4).symm.trans hf
          exact absurd hf (by simp)
        · replace hf := (if_neg c4).symm.trans hf
          refine gw_bast (σ' := (stA (stA σ 0 x1.toNatClampNeg (vp_nar .byte x2.toInt8.toInt32)) 0 (x1 + (1 : Int32)).toNatClampNeg (vp_nar .byte ((x2 >>> ((8 : Int32) &&& 31)).toInt8.toInt32)))) F hW 2 0 (aX_2 K (stA σ 0 x1.toNatClampNeg (vp_nar .byte x2.toInt8.toInt32))) rfl c4 dX1_put4_35 (sAX_0 _ _ _) (fun H locs hW => ?_)
          refine lv_aload_n hx hb dX1_put4_36 rfl (lv_at hl 0 rfl) ?_
          refine gw_get (v := .ref (ka K 2)) F inc_X1 hW 1 1 0 (aX_1 K (stA (stA σ 0 x1.toNatClampNeg (vp_nar .byte x2.toInt8.toInt32)) 0 (x1 + (1 : Int32)).toNatClampNeg (vp_nar .byte ((x2 >>> ((8 : Int32) &&& 31)).toInt8.toInt32)))) rfl (by decide) (hG _ q_1_53) (fun _ h9 => h9) rfl dX1_put4_37 ?_
          refine lv_iload_n hx hb dX1_put4_40 rfl (lv_at hl 1 rfl) ?_
          refine lv_iconst (v := (2 : Int32)) hx hb dX1_put4_41 (by decide) ?_
          refine lv_iadd hx hb dX1_put4_42 ?_
          refine lv_iload_n hx hb dX1_put4_43 rfl (lv_at hl 2 rfl) ?_
          refine lv_bipush (v := (16 : Int32)) hx hb dX1_put4_44 (by decide) ?_
          refine lv_ishr hx hb dX1_put4_46 ?_
          refine lv_i2b (v := (x2 >>> ((16 : Int32) &&& 31)).toInt8.toInt32) hx hb dX1_put4_47 rfl ?_
          rcases Decidable.em ((x1 + (2 : Int32)) < 0 ∨ ((kn K) * 1024) ≤ (x1 + (2 : Int32)).toNatClampNeg) with c5 | c5
          · replace hf := (if_pos c5).symm.trans hf
            exact absurd hf (by simp)
          · replace hf := (if_neg c5).symm.trans hf
            refine gw_bast (σ' := (stA (stA (stA σ 0 x1.toNatClampNeg (vp_nar .byte x2.toInt8.toInt32)) 0 (x1 + (1 : Int32)).toNatClampNeg (vp_nar .byte ((x2 >>> ((8 : Int32) &&& 31)).toInt8.toInt32))) 0 (x1 + (2 : Int32)).toNatClampNeg (vp_nar .byte ((x2 >>> ((16 : Int32) &&& 31)).toInt8.toInt32)))) F hW 2 0 (aX_2 K (stA (stA σ 0 x1.toNatClampNeg (vp_nar .byte x2.toInt8.toInt32)) 0 (x1 + (1 : Int32)).toNatClampNeg (vp_nar .byte ((x2 >>> ((8 : Int32) &&& 31)).toInt8.toInt32)))) rfl c5 dX1_put4_48 (sAX_0 _ _ _) (fun H locs hW => ?_)
            refine lv_aload_n hx hb dX1_put4_49 rfl (lv_at hl 0 rfl) ?_
            refine gw_get (v := .ref (ka K 2)) F inc_X1 hW 1 1 0 (aX_1 K (stA (stA (stA σ 0 x1.toNatClampNeg (vp_nar .byte x2.toInt8.toInt32)) 0 (x1 + (1 : Int32)).toNatClampNeg (vp_nar .byte ((x2 >>> ((8 : Int32) &&& 31)).toInt8.toInt32))) 0 (x1 + (2 : Int32)).toNatClampNeg (vp_nar .byte ((x2 >>> ((16 : Int32) &&& 31)).toInt8.toInt32)))) rfl (by decide) (hG _ q_1_53) (fun _ h9 => h9) rfl dX1_put4_50 ?_
            refine lv_iload_n hx hb dX1_put4_53 rfl (lv_at hl 1 rfl) ?_
            refine lv_iconst (v := (3 : Int32)) hx hb dX1_put4_54 (by decide) ?_
            refine lv_iadd hx hb dX1_put4_55 ?_
            refine lv_iload_n hx hb dX1_put4_56 rfl (lv_at hl 2 rfl) ?_
            refine lv_bipush (v := (24 : Int32)) hx hb dX1_put4_57 (by decide) ?_
            refine lv_ishr hx hb dX1_put4_59 ?_
            refine lv_i2b (v := (x2 >>> ((24 : Int32) &&& 31)).toInt8.toInt32) hx hb dX1_put4_60 rfl ?_
            rcases Decidable.em ((x1 + (3 : Int32)) < 0 ∨ ((kn K) * 1024) ≤ (x1 + (3 : Int32)).toNatClampNeg) with c6 | c6
            · replace hf := (if_pos c6).symm.trans hf
              exact absurd hf (by simp)
            · replace hf := (if_neg c6).symm.trans hf
              refine gw_bast (σ' := (stA (stA (stA (stA σ 0 x1.toNatClampNeg (vp_nar .byte x2.toInt8.toInt32)) 0 (x1 + (1 : Int32)).toNatClampNeg (vp_nar .byte ((x2 >>> ((8 : Int32) &&& 31)).toInt8.toInt32))) 0 (x1 + (2 : Int32)).toNatClampNeg (vp_nar .byte ((x2 >>> ((16 : Int32) &&& 31)).toInt8.toInt32))) 0 (x1 + (3 : Int32)).toNatClampNeg (vp_nar .byte ((x2 >>> ((24 : Int32) &&& 31)).toInt8.toInt32)))) F hW 2 0 (aX_2 K (stA (stA (stA σ 0 x1.toNatClampNeg (vp_nar .byte x2.toInt8.toInt32)) 0 (x1 + (1 : Int32)).toNatClampNeg (vp_nar .byte ((x2 >>> ((8 : Int32) &&& 31)).toInt8.toInt32))) 0 (x1 + (2 : Int32)).toNatClampNeg (vp_nar .byte ((x2 >>> ((16 : Int32) &&& 31)).toInt8.toInt32)))) rfl c6 dX1_put4_61 (sAX_0 _ _ _) (fun H locs hW => ?_)
              exact gw_retv F hW hf dX1_put4_62
set_option maxHeartbeats 4000000 in
set_option maxRecDepth 100000 in
theorem mXX1_put4_1 {l : Launch} {K : KX} {σ : XS} {x1 : Int32} {x2 : Int32} {o : XS} (hf : fXX1_put4_1 (kn K) x1 x2 σ = some o) : gw_Mv l (kD K) vwCl (tyX K) (wX K) yX1_put4 wsX1_put4 rXX1_put4_1 [.ref (ka K 1), .int x1, .int x2] σ o := by
  intro sz
  refine gw_body (cc := cX1_put4) (maxL := 3) (yret := none) (by decide +kernel) rfl ?_ (Nat.le_of_ble_eq_true rfl)
  intro p e s m below meth c F hsz hW ls hl
  exact wXX1_put4_1_0 F x1 x2 σ o hf s.heap [] ls hl hW
abbrev rXJ2_rangeCheck : Room := { frames := 0, cells := 0, slots := 0, locals := 0 }
set_option maxHeartbeats 4000000 in
set_option maxRecDepth 100000 in
theorem wXJ2_rangeCheck_0 {p : Program} {l : Launch} {e : Env} {s : State} {m : MethodId} {args : Array Value} {below : List Frame} {meth : Method} {c : Code} {A : Nat → Prop} {K : KX} (F : fx_ p s m args meth c cJ2_rangeCheck 3 none RJ2 wsJ2_rangeCheck) (x0 : Int32) (x1 : Int32) (x2 : Int32) (σ : XS) (o : XS) (hf : fXJ2_rangeCheck_0 (kn K) x0 x1 x2 σ = some o) (H : Heap) (locs : List Loc) (ls : Array Slot) (hl : lv_has ls 3 [(0, .int x0), (1, .int x1), (2, .int x2)]) (hW : gw_ (kD K) vwCl (tyX K) (wX K) A s σ H locs) : W p l e rXJ2_rangeCheck s m args below meth c H locs 0 0 (MQ below (gw_Qv (kD K) vwCl (tyX K) (wX K) A o) args s rXJ2_rangeCheck.cells rXJ2_rangeCheck.slots A) (F0 m 0 ls []) := by
  have hx := F.1
  have hb := F.2.1
  have hml := F.2.2.2.1
  have hown := F.2.2.2.2.1
  have hts := F.2.2.2.2.2.1
  have hG : ∀ x ∈ gT, x.before args s = true := fun x h => hts x (List.mem_cons_of_mem _ h)
  unfold fXJ2_rangeCheck_0 at hf
  refine lv_iload_n hx hb dJ2_rangeCheck_0 rfl (lv_at hl 1 rfl) ?_
  refine lv_iload_n hx hb dJ2_rangeCheck_1 rfl (lv_at hl 2 rfl) ?_
  refine lv_icmp_le (tgt := 46) hx hb dJ2_rangeCheck_2 (by decide) (fun c1 => ?_) (fun c1 => ?_)
  · replace hf := (if_pos c1).symm.trans hf
    refine lv_iload_n hx hb dJ2_rangeCheck_46 rfl (lv_at hl 1 rfl) ?_
    refine lv_if_ge (tgt := 59) hx hb dJ2_rangeCheck_47 (by decide) (fun c2 => ?_) (fun c2 => ?_)
    · replace hf := (if_pos c2).symm.trans hf
      refine lv_iload_n hx hb dJ2_rangeCheck_59 rfl (lv_at hl 2 rfl) ?_
      refine lv_iload_n hx hb dJ2_rangeCheck_60 rfl (lv_at hl 0 rfl) ?_
      refine lv_icmp_le (tgt := 73) hx hb dJ2_rangeCheck_61 (by decide) (fun c3 => ?_) (fun c3 => ?_)
      · replace hf := (if_pos c3).symm.trans hf
        exact gw_retv F hW hf dJ2_rangeCheck_73
      · replace hf := (if_neg c3).symm.trans hf
        exact absurd hf (by simp)
    · replace hf := (if_neg c2).symm.trans hf
      exact absurd hf (by simp)
  · replace hf := (if_neg c1).symm.trans hf
    exact absurd hf (by simp)
set_option maxHeartbeats 4000000 in
set_option maxRecDepth 100000 in
theorem mXJ2_rangeCheck {l : Launch} {K : KX} {σ : XS} {x0 : Int32} {x1 : Int32} {x2 : Int32} {o : XS} (hf : fXJ2_rangeCheck (kn K) x0 x1 x2 σ = some o) : gw_Mv l (kD K) vwCl (tyX K) (wX K) yJ2_rangeCheck wsJ2_rangeCheck rXJ2_rangeCheck [.int x0, .int x1, .int x2] σ o := by
  intro sz
  refine gw_body (cc := cJ2_rangeCheck) (maxL := 3) (yret := none) (by decide +kernel) rfl ?_ (Nat.le_of_ble_eq_true rfl)
  intro p e s m below meth c F hsz hW ls hl
  exact wXJ2_rangeCheck_0 F x0 x1 x2 σ o hf s.heap [] ls hl hW
abbrev rXJ2_fill___2 : Room := { frames := 1, cells := 0, slots := 0, locals := 22 }
def PXJ2_fill___2_10 (p : Program) (l : Launch) (e : Env) (s : State) (m : MethodId) (args : Array Value) (below : List Frame) (meth : Method) (c : Code) (A : Nat → Prop) (K : KX) (t : (Int32 × Int32 × Int32 × XS)) (o : XS) : Prop := ∀ (H : Heap) (locs : List Loc) (ls : Array Slot), lv_has ls 5 [(0, .ref (ka K 2)), (2, .int t.1), (3, .int t.2.1), (4, .int t.2.2.1)] → gw_ (kD K) vwCl (tyX K) (wX K) A s t.2.2.2 H locs → W p l e rXJ2_fill___2 s m args below meth c H locs 0 0 (MQ below (gw_Qv (kD K) vwCl (tyX K) (wX K) A o) args s rXJ2_fill___2.cells rXJ2_fill___2.slots A) (F0 m 10 ls [])
set_option maxHeartbeats 4000000 in
set_option maxRecDepth 100000 in
theorem wXJ2_fill___2_10 {p : Program} {l : Launch} {e : Env} {s : State} {m : MethodId} {args : Array Value} {below : List Frame} {meth : Method} {c : Code} {A : Nat → Prop} {K : KX} (F : fx_ p s m args meth c cJ2_fill__ 5 none RJ2 wsJ2_fill__) {k10 : (Int32 × Int32 × Int32 × XS) → Option XS} (hk10 : ∀ t o, k10 t = some o → PXJ2_fill___2_10 p l e s m args below meth c A K t o) (x2 : Int32) (x3 : Int32) (x4 : Int32) (σ : XS) (o : XS) (hf : fXJ2_fill___2_10 (kn K) k10 x2 x3 x4 σ = some o) (H : Heap) (locs : List Loc) (ls : Array Slot) (hl : lv_has ls 5 [(0, .ref (ka K 2)), (2, .int x2), (3, .int x3), (4, .int x4)]) (hW : gw_ (kD K) vwCl (tyX K) (wX K) A s σ H locs) : W p l e rXJ2_fill___2 s m args below meth c H locs 0 0 (MQ below (gw_Qv (kD K) vwCl (tyX K) (wX K) A o) args s rXJ2_fill___2.cells rXJ2_fill___2.slots A) (F0 m 10 ls []) := by
  have hx := F.1
  have hb := F.2.1
  have hml := F.2.2.2.1
  have hown := F.2.2.2.2.1
  have hts := F.2.2.2.2.2.1
  have hG : ∀ x ∈ gT, x.before args s = true := fun x h => hts x (List.mem_cons_of_mem _ h)
  unfold fXJ2_fill___2_10 at hf
  refine lv_iload hx hb dJ2_fill___10 (lv_at hl 3 rfl) ?_
  refine lv_iload_n hx hb dJ2_fill___12 rfl (lv_at hl 1 rfl) ?_
  refine lv_icmp_ge (tgt := 27) hx hb dJ2_fill___13 (by decide) (fun c4 => ?_) (fun c4 => ?_)
  · replace hf := (if_pos c4).symm.trans hf
    exact gw_retv F hW hf dJ2_fill___27
  · replace hf := (if_neg c4).symm.trans hf
    refine lv_aload_n hx hb dJ2_fill___16 rfl (lv_at hl 0 rfl) ?_
    refine lv_iload hx hb dJ2_fill___17 (lv_at hl 3 rfl) ?_
    refine lv_iload_n hx hb dJ2_fill___19 rfl (lv_at hl 2 rfl) ?_
    rcases Decidable.em (x4 < 0 ∨ ((kn K) * 1024) ≤ x4.toNatClampNeg) with c5 | c5
    · replace hf := (if_pos c5).symm.trans hf
      exact absurd hf (by simp)
    · replace hf := (if_neg c5).symm.trans hf
      refine gw_bast (σ' := (stA σ 0 x4.toNatClampNeg (vp_nar .byte x3))) F hW 2 0 (aX_2 K σ) rfl c5 dJ2_fill___20 (sAX_0 _ _ _) (fun H locs hW => ?_)
      refine lv_iinc (v := (x4 + (1 : Int32))) (lv' := [(4, .int (x4 + (1 : Int32))), (0, .ref (ka K 2)), (2, .int x2), (3, .int x3)]) hx hb dJ2_fill___21 hl (k := 3) rfl rfl (by decide) rfl (fun ls hl => ?_)
      refine lv_goto (tgt := 10) hx hb dJ2_fill___24 (by decide) ?_
      exact hk10 _ _ hf _ _ _ (lv_sub hl [1, 2, 3, 0] rfl) hW
set_option maxHeartbeats 4000000 in
set_option maxRecDepth 100000 in
theorem wXJ2_fill___2_0 {p : Program} {l : Launch} {e : Env} {s : State} {m : MethodId} {args : Array Value} {below : List Frame} {meth : Method} {c : Code} {A : Nat → Prop} {K : KX} (F : fx_ p s m args meth c cJ2_fill__ 5 none RJ2 wsJ2_fill__) (x1 : Int32) (x2 : Int32) (x3 : Int32) (σ : XS) (o : XS) (hf : fXJ2_fill___2_0 (kn K) x1 x2 x3 σ = some o) (H : Heap) (locs : List Loc) (ls : Array Slot) (hl : lv_has ls 5 [(0, .ref (ka K 2)), (1, .int x1), (2, .int x2), (3, .int x3)]) (hW : gw_ (kD K) vwCl (tyX K) (wX K) A s σ H locs) : W p l e rXJ2_fill___2 s m args below meth c H locs 0 0 (MQ below (gw_Qv (kD K) vwCl (tyX K) (wX K) A o) args s rXJ2_fill___2.cells rXJ2_fill___2.slots A) (F0 m 0 ls []) := by
  have hx := F.1
  have hb := F.2.1
  have hml := F.2.2.2.1
  have hown := F.2.2.2.2.1
  have hts := F.2.2.2.2.2.1
  have hG : ∀ x ∈ gT, x.before args s = true := fun x h => hts x (List.mem_cons_of_mem _ h)
  unfold fXJ2_fill___2_0 at hf
  refine lv_aload_n hx hb dJ2_fill___0 rfl (lv_at hl 0 rfl) ?_
  refine gw_alen F hW 2 0 (aX_2 K σ) rfl dJ2_fill___1 ?_
  refine lv_iload_n hx hb dJ2_fill___2 rfl (lv_at hl 1 rfl) ?_
  refine lv_iload_n hx hb dJ2_fill___3 rfl (lv_at hl 2 rfl) ?_
  obtain ⟨o1, h2, hf⟩ := gw_bind hf
  refine gw_Sv (As := [.int (Int32.ofNat ((kn K) * 1024)), .int x1, .int x2]) (mc' := 0) (ms' := 0) F hW (mXJ2_rangeCheck h2) (va_cwS 3 hts (gT_S q_3_48 q_3_49 q_1_14 q_3_50) rfl rfl rfl hdJ2_rangeCheck.2 ⟨Nat.le_of_ble_eq_true rfl, Nat.le_of_ble_eq_true rfl⟩) rfl hl.1 rfl (Nat.le_of_ble_eq_true rfl) dJ2_fill___4 ⟨Nat.le_of_ble_eq_true rfl, Nat.le_of_ble_eq_true rfl⟩ rfl rfl (fun H locs hW => ?_)
  refine lv_iload_n hx hb dJ2_fill___7 rfl (lv_at hl 1 rfl) ?_
  refine lv_istore (lv' := [(4, .int x1), (0, .ref (ka K 2)), (1, .int x1), (2, .int x2), (3, .int x3)]) hx hb dJ2_fill___8 hl (by decide) rfl (fun ls hl => ?_)
  exact lfix_ind (P := PXJ2_fill___2_10 p l e s m args below meth c A K) (fun k10 hk10 t o hf => wXJ2_fill___2_10 F hk10 t.1 t.2.1 t.2.2.1 t.2.2.2 o hf) FU _ _ hf _ _ _ (lv_sub hl [1, 3, 4, 0] rfl) hW
set_option maxHeartbeats 4000000 in
set_option maxRecDepth 100000 in
theorem mXJ2_fill___2 {l : Launch} {K : KX} {σ : XS} {x1 : Int32} {x2 : Int32} {x3 : Int32} {o : XS} (hf : fXJ2_fill___2 (kn K) x1 x2 x3 σ = some o) : gw_Mv l (kD K) vwCl (tyX K) (wX K) yJ2_fill__ wsJ2_fill__ rXJ2_fill___2 [.ref (ka K 2), .int x1, .int x2, .int x3] σ o := by
  intro sz
  refine gw_body (cc := cJ2_fill__) (maxL := 5) (yret := none) (by decide +kernel) rfl ?_ (Nat.le_of_ble_eq_true rfl)
  intro p e s m below meth c F hsz hW ls hl
  exact wXJ2_fill___2_0 F x1 x2 x3 σ o hf s.heap [] ls hl hW
abbrev rXX1_fill_1 : Room := { frames := 2, cells := 0, slots := 0, locals := 46 }
set_option maxHeartbeats 4000000 in
set_option maxRecDepth 100000 in
theorem wXX1_fill_1_0 {p : Program} {l : Launch} {e : Env} {s : State} {m : MethodId} {args : Array Value} {below : List Frame} {meth : Method} {c : Code} {A : Nat → Prop} {K : KX} (F : fx_ p s m args meth c cX1_fill 4 none RX1 wsX1_fill) (x1 : Int32) (x2 : Int32) (x3 : Int32) (σ : XS) (o : XS) (hf : fXX1_fill_1_0 (kn K) x1 x2 x3 σ = some o) (H : Heap) (locs : List Loc) (ls : Array Slot) (hl : lv_has ls 4 [(0, .ref (ka K 1)), (1, .int x1), (2, .int x2), (3, .int x3)]) (hW : gw_ (kD K) vwCl (tyX K) (wX K) A s σ H locs) : W p l e rXX1_fill_1 s m args below meth c H locs 0 0 (MQ below (gw_Qv (kD K) vwCl (tyX K) (wX K) A o) args s rXX1_fill_1.cells rXX1_fill_1.slots A) (F0 m 0 ls []) := by
  have hx := F.1
  have hb := F.2.1
  have hml := F.2.2.2.1
  have hown := F.2.2.2.2.1
  have hts := F.2.2.2.2.2.1
  have hG : ∀ x ∈ gT, x.before args s = true := fun x h => hts x (List.mem_cons_of_mem _ h)
  unfold fXX1_fill_1_0 at hf
  refine lv_iload_n hx hb dX1_fill_0 rfl (lv_at hl 1 rfl) ?_
  refine lv_if_lt (tgt := 29) hx hb dX1_fill_1 (by decide) (fun c1 => ?_) (fun c1 => ?_)
  · replace hf := (if_pos c1).symm.trans hf
    exact gw_retv F hW hf dX1_fill_29
  · replace hf := (if_neg c1).symm.trans hf
    refine lv_iload_n hx hb dX1_fill_4 rfl (lv_at hl 1 rfl) ?_
    refine lv_iload_n hx hb dX1_fill_5 rfl (lv_at hl 2 rfl) ?_
    refine lv_icmp_gt (tgt := 29) hx hb dX1_fill_6 (by decide) (fun c2 => ?_) (fun c2 => ?_)
    · replace hf := (if_pos c2).symm.trans hf
      exact gw_retv F hW hf dX1_fill_29
    · replace hf := (if_neg c2).symm.trans hf
      refine lv_iload_n hx hb dX1_fill_9 rfl (lv_at hl 2 rfl) ?_
      refine lv_aload_n hx hb dX1_fill_10 rfl (lv_at hl 0 rfl) ?_
      refine gw_get (v := .ref (ka K 2)) F inc_X1 hW 1 1 0 (aX_1 K σ) rfl (by decide) (hG _ q_1_53) (fun _ h9 => h9) rfl dX1_fill_11 ?_
      refine gw_alen F hW 2 0 (aX_2 K σ) rfl dX1_fill_14 ?_
      refine lv_icmp_gt (tgt := 29) hx hb dX1_fill_15 (by decide) (fun c3 => ?_) (fun c3 => ?_)
      · replace hf := (if_pos c3).symm.trans hf
        exact gw_retv F hW hf dX1_fill_29
      · replace hf := (if_neg c3).symm.trans hf
        refine lv_aload_n hx hb dX1_fill_18 rfl (lv_at hl 0 rfl) ?_
        refine gw_get (v := .ref (ka K 2)) F inc_X1 hW 1 1 0 (aX_1 K σ) rfl (by decide) (hG _ q_1_53) (fun _ h9 => h9) rfl dX1_fill_19 ?_
        refine lv_iload_n hx hb dX1_fill_22 rfl (lv_at hl 1 rfl) ?_
        refine lv_iload_n hx hb dX1_fill_23 rfl (lv_at hl 2 rfl) ?_
        refine lv_iload_n hx hb dX1_fill_24 rfl (lv_at hl 3 rfl) ?_
        refine lv_i2b (v := x3.toInt8.toInt32) hx hb dX1_fill_25 rfl ?_
        obtain ⟨o4, h5, hf⟩ := gw_bind hf
        refine gw_Sv (As := [.ref (ka K 2), .int x1, .int x2, .int x3.toInt8.toInt32]) (mc' := 0) (ms' := 0) F hW (mXJ2_fill___2 h5) (va_cwS 4 hts (gT_S q_3_45 q_3_46 q_1_14 q_3_47) rfl rfl rfl hdJ2_fill__.2 ⟨Nat.le_of_ble_eq_true rfl, Nat.le_of_ble_eq_true rfl⟩) rfl hl.1 rfl (Nat.le_of_ble_eq_true rfl) dX1_fill_26 ⟨Nat.le_of_ble_eq_true rfl, Nat.le_of_ble_eq_true rfl⟩ rfl rfl (fun H locs hW => ?_)
        exact gw_retv F hW hf dX1_fill_29
set_option maxHeartbeats 4000000 in
set_option maxRecDepth 100000 in
theorem mXX1_fill_1 {l : Launch} {K : KX} {σ : XS} {x1 : Int32} {x2 : Int32} {x3 : Int32} {o : XS} (hf : fXX1_fill_1 (kn K) x1 x2 x3 σ = some o) : gw_Mv l (kD K) vwCl (tyX K) (wX K) yX1_fill wsX1_fill rXX1_fill_1 [.ref (ka K 1), .int x1, .int x2, .int x3] σ o := by
  intro sz
  refine gw_body (cc := cX1_fill) (maxL := 4) (yret := none) (by decide +kernel) rfl ?_ (Nat.le_of_ble_eq_true rfl)
  intro p e s m below meth c F hsz hW ls hl
  exact wXX1_fill_1_0 F x1 x2 x3 σ o hf s.heap [] ls hl hW
abbrev rXX1_copy_1 : Room := { frames := 1, cells := 0, slots := 0, locals := 26 }
set_option maxHeartbeats 4000000 in
set_option maxRecDepth 100000 in
theorem wXX1_copy_1_0 {p : Program} {l : Launch} {e : Env} {s : State} {m : MethodId} {args : Array Value} {below : List Frame} {meth : Method} {c : Code} {A : Nat → Prop} {K : KX} (F : fx_ p s m args meth c cX1_copy 4 none RX1 wsX1_copy) (x1 : Int32) (x2 : Int32) (x3 : Int32) (σ : XS) (o : XS) (hf : fXX1_copy_1_0 (kn K) x1 x2 x3 σ = some o) (H : Heap) (locs : List Loc) (ls : Array Slot) (hl : lv_has ls 4 [(0, .ref (ka K 1)), (1, .int x1), (2, .int x2), (3, .int x3)]) (hW : gw_ (kD K) vwCl (tyX K) (wX K) A s σ H locs) : W p l e rXX1_copy_1 s m args below meth c H locs 0 0 (MQ below (gw_Qv (kD K) vwCl (tyX K) (wX K) A o) args s rXX1_copy_1.cells rXX1_copy_1.slots A) (F0 m 0 ls []) := by
  have hx := F.1
  have hb := F.2.1
  have hml := F.2.2.2.1
  have hown := F.2.2.2.2.1
  have hts := F.2.2.2.2.2.1
  have hG : ∀ x ∈ gT, x.before args s = true := fun x h => hts x (List.mem_cons_of_mem _ h)
  unfold fXX1_copy_1_0 at hf
  refine lv_iload_n hx hb dX1_copy_0 rfl (lv_at hl 3 rfl) ?_
  refine lv_if_lt (tgt := 48) hx hb dX1_copy_1 (by decide) (fun c1 => ?_) (fun c1 => ?_)
  · replace hf := (if_pos c1).symm.trans hf
    exact gw_retv F hW hf dX1_copy_48
  · replace hf := (if_neg c1).symm.trans hf
    refine lv_iload_n hx hb dX1_copy_4 rfl (lv_at hl 1 rfl) ?_
    refine lv_if_lt (tgt := 48) hx hb dX1_copy_5 (by decide) (fun c2 => ?_) (fun c2 => ?_)
    · replace hf := (if_pos c2).symm.trans hf
      exact gw_retv F hW hf dX1_copy_48
    · replace hf := (if_neg c2).symm.trans hf
      refine lv_iload_n hx hb dX1_copy_8 rfl (lv_at hl 2 rfl) ?_
      refine lv_if_lt (tgt := 48) hx hb dX1_copy_9 (by decide) (fun c3 => ?_) (fun c3 => ?_)
      · replace hf := (if_pos c3).symm.trans hf
        exact gw_retv F hW hf dX1_copy_48
      · replace hf := (if_neg c3).symm.trans hf
        refine lv_iload_n hx hb dX1_copy_12 rfl (lv_at hl 1 rfl) ?_
        refine lv_aload_n hx hb dX1_copy_13 rfl (lv_at hl 0 rfl) ?_
        refine gw_get (v := .ref (ka K 2)) F inc_X1 hW 1 1 0 (aX_1 K σ) rfl (by decide) (hG _ q_1_53) (fun _ h9 => h9) rfl dX1_copy_14 ?_
        refine gw_alen F hW 2 0 (aX_2 K σ) rfl dX1_copy_17 ?_
        refine lv_iload_n hx hb dX1_copy_18 rfl (lv_at hl 3 rfl) ?_
        refine lv_isub hx hb dX1_copy_19 ?_
        refine lv_icmp_gt (tgt := 48) hx hb dX1_copy_20 (by decide) (fun c4 => ?_) (fun c4 => ?_)
        · replace hf := (if_pos c4).symm.trans hf
          exact gw_retv F hW hf dX1_copy_48
        · replace hf := (if_neg c4).symm.trans hf
          refine lv_iload_n hx hb dX1_copy_23 rfl (lv_at hl 2 rfl) ?_
          refine lv_aload_n hx hb dX1_copy_24 rfl (lv_at hl 0 rfl) ?_
          refine gw_get (v := .ref (ka K 2)) F inc_X1 hW 1 1 0 (aX_1 K σ) rfl (by decide) (hG _ q_1_53) (fun _ h9 => h9) rfl dX1_copy_25 ?_
          refine gw_alen F hW 2 0 (aX_2 K σ) rfl dX1_copy_28 ?_
          refine lv_iload_n hx hb dX1_copy_29 rfl (lv_at hl 3 rfl) ?_
          refine lv_isub hx hb dX1_copy_30 ?_
          refine lv_icmp_gt (tgt := 48) hx hb dX1_copy_31 (by decide) (fun c5 => ?_) (fun c5 => ?_)
          · replace hf := (if_pos c5).symm.trans hf
            exact gw_retv F hW hf dX1_copy_48
          · replace hf := (if_neg c5).symm.trans hf
            refine lv_aload_n hx hb dX1_copy_34 rfl (lv_at hl 0 rfl) ?_
            refine gw_get (v := .ref (ka K 2)) F inc_X1 hW 1 1 0 (aX_1 K σ) rfl (by decide) (hG _ q_1_53) (fun _ h9 => h9) rfl dX1_copy_35 ?_
            refine lv_iload_n hx hb dX1_copy_38 rfl (lv_at hl 1 rfl) ?_
            refine lv_aload_n hx hb dX1_copy_39 rfl (lv_at hl 0 rfl) ?_
            refine gw_get (v := .ref (ka K 2)) F inc_X1 hW 1 1 0 (aX_1 K σ) rfl (by decide) (hG _ q_1_53) (fun _ h9 => h9) rfl dX1_copy_40 ?_
            refine lv_iload_n hx hb dX1_copy_43 rfl (lv_at hl 2 rfl) ?_
            refine lv_iload_n hx hb dX1_copy_44 rfl (lv_at hl 3 rfl) ?_
            rcases Decidable.em (x1 < 0 ∨ x2 < 0 ∨ x3 < 0 ∨ ((kn K) * 1024) < x1.toNatClampNeg + x3.toNatClampNeg ∨ ((kn K) * 1024) < x2.toNatClampNeg + x3.toNatClampNeg) with c6 | c6
            · replace hf := (if_pos c6).symm.trans hf
              exact absurd hf (by simp)
            · replace hf := (if_neg c6).symm.trans hf
              rcases Decidable.em (∀ i, i < x3.toNatClampNeg → fits .byte (.int ((σ.2.1 0) (x1.toNatClampNeg + i))) = true) with c7 | c7
              · replace hf := (if_pos c7).symm.trans hf
                refine gw_copyb (σ' := (stC σ 0 0 x1.toNatClampNeg x2.toNatClampNeg x3.toNatClampNeg)) F hW (hG _ q_4_232) (hG _ q_2_35) (hG _ q_2_34) (hG _ q_1_13) 2 2 0 0 (aX_2 K σ) (aX_2 K σ) rfl rfl c6 c7 hl.1 (Nat.le_of_ble_eq_true rfl) (Nat.le_of_ble_eq_true rfl) dX1_copy_45 (sAX_0 _ _ _) (fun H locs hW => ?_)
                exact gw_retv F hW hf dX1_copy_48
              · replace hf := (if_neg c7).symm.trans hf
                exact absurd hf (by simp)
set_option maxHeartbeats 4000000 in
set_option maxRecDepth 100000 in
theorem mXX1_copy_1 {l : Launch} {K : KX} {σ : XS} {x1 : Int32} {x2 : Int32} {x3 : Int32} {o : XS} (hf : fXX1_copy_1 (kn K) x1 x2 x3 σ = some o) : gw_Mv l (kD K) vwCl (tyX K) (wX K) yX1_copy wsX1_copy rXX1_copy_1 [.ref (ka K 1), .int x1, .int x2, .int x3] σ o := by
  intro sz
  refine gw_body (cc := cX1_copy) (maxL := 4) (yret := none) (by decide +kernel) rfl ?_ (Nat.le_of_ble_eq_true rfl)
  intro p e s m below meth c F hsz hW ls hl
  exact wXX1_copy_1_0 F x1 x2 x3 σ o hf s.heap [] ls hl hW
abbrev rXX1_isZero_1 : Room := { frames := 1, cells := 0, slots := 0, locals := 21 }
def PXX1_isZero_1_25 (p : Program) (l : Launch) (e : Env) (s : State) (m : MethodId) (args : Array Value) (below : List Frame) (meth : Method) (c : Code) (A : Nat → Prop) (K : KX) (t : (Int32 × Int32 × XS)) (o : (Int32 × XS)) : Prop := ∀ (H : Heap) (locs : List Loc) (ls : Array Slot), lv_has ls 4 [(0, .ref (ka K 1)), (2, .int t.1), (3, .int t.2.1)] → gw_ (kD K) vwCl (tyX K) (wX K) A s t.2.2 H locs → W p l e rXX1_isZero_1 s m args below meth c H locs 0 0 (MQ below (va_Qi (fun r u => (r = o.1 ∧ u = o.2) ∧ (o.1 = 0 ∨ o.1 = 1)) (gw_B (kD K) vwCl (tyX K) (wX K) A) A) args s rXX1_isZero_1.cells rXX1_isZero_1.slots A) (F0 m 25 ls [])
def PXX1_isZero_1_2 (p : Program) (l : Launch) (e : Env) (s : State) (m : MethodId) (args : Array Value) (below : List Frame) (meth : Method) (c : Code) (A : Nat → Prop) (K : KX) (t : (Int32 × Int32 × XS)) (o : (Int32 × XS)) : Prop := ∀ (H : Heap) (locs : List Loc) (ls : Array Slot), lv_has ls 4 [(0, .ref (ka K 1)), (2, .int t.1), (3, .int t.2.1)] → gw_ (kD K) vwCl (tyX K) (wX K) A s t.2.2 H locs → W p l e rXX1_isZero_1 s m args below meth c H locs 0 0 (MQ below (va_Qi (fun r u => (r = o.1 ∧ u = o.2) ∧ (o.1 = 0 ∨ o.1 = 1)) (gw_B (kD K) vwCl (tyX K) (wX K) A) A) args s rXX1_isZero_1.cells rXX1_isZero_1.slots A) (F0 m 2 ls [])
set_option maxHeartbeats 4000000 in
set_option maxRecDepth 100000 in
theorem wXX1_isZero_1_25 {p : Program} {l : Launch} {e : Env} {s : State} {m : MethodId} {args : Array Value} {below : List Frame} {meth : Method} {c : Code} {A : Nat → Prop} {K : KX} (F : fx_ p s m args meth c cX1_isZero 4 (some .boolean) RX1 wsX1_isZero) {k25 : (Int32 × Int32 × XS) → Option (Int32 × XS)} (hk25 : ∀ t o, k25 t = some o → PXX1_isZero_1_25 p l e s m args below meth c A K t o) (x2 : Int32) (x3 : Int32) (σ : XS) (o : (Int32 × XS)) (hf : fXX1_isZero_1_25 (kn K) k25 x2 x3 σ = some o) (H : Heap) (locs : List Loc) (ls : Array Slot) (hl : lv_has ls 4 [(0, .ref (ka K 1)), (2, .int x2), (3, .int x3)]) (hW : gw_ (kD K) vwCl (tyX K) (wX K) A s σ H locs) : W p l e rXX1_isZero_1 s m args below meth c H locs 0 0 (MQ below (va_Qi (fun r u => (r = o.1 ∧ u = o.2) ∧ (o.1 = 0 ∨ o.1 = 1)) (gw_B (kD K) vwCl (tyX K) (wX K) A) A) args s rXX1_isZero_1.cells rXX1_isZero_1.slots A) (F0 m 25 ls []) := by
  have hx := F.1
  have hb := F.2.1
  have hml := F.2.2.2.1
  have hown := F.2.2.2.2.1
  have hts := F.2.2.2.2.2.1
  have hG : ∀ x ∈ gT, x.before args s = true := fun x h => hts x (List.mem_cons_of_mem _ h)
  unfold fXX1_isZero_1_25 at hf
  refine lv_iload_n hx hb dX1_isZero_25 rfl (lv_at hl 2 rfl) ?_
  refine lv_iload_n hx hb dX1_isZero_26 rfl (lv_at hl 1 rfl) ?_
  refine lv_icmp_ge (tgt := 46) hx hb dX1_isZero_27 (by decide) (fun c2 => ?_) (fun c2 => ?_)
  · replace hf := (if_pos c2).symm.trans hf
    refine lv_iconst (v := (1 : Int32)) hx hb dX1_isZero_46 (by decide) ?_
    exact gw_retz F hW hf (Or.inr rfl) dX1_isZero_47
  · replace hf := (if_neg c2).symm.trans hf
    refine lv_aload_n hx hb dX1_isZero_30 rfl (lv_at hl 0 rfl) ?_
    refine lv_iload_n hx hb dX1_isZero_31 rfl (lv_at hl 2 rfl) ?_
    obtain ⟨o3, h4, hf⟩ := gw_bind hf
    refine gw_Vi (As := [.int x3]) (mc' := 0) (ms' := 0) F hW (mXX1_get_1 h4) (cwV 1 hts (gT_V q_2_127 q_2_56 q_2_57 q_1_3 q_2_58) rfl rfl rfl hdX1_get ⟨Nat.le_of_ble_eq_true rfl, Nat.le_of_ble_eq_true rfl⟩) 1 1 (aX_1 K σ) rfl rfl hl.1 rfl (Nat.le_of_ble_eq_true rfl) dX1_isZero_32 ⟨Nat.le_of_ble_eq_true rfl, Nat.le_of_ble_eq_true rfl⟩ rfl rfl (fun H locs hW => ?_)
    refine lv_if_eq (tgt := 40) hx hb dX1_isZero_35 (by decide) (fun c6 => ?_) (fun c6 => ?_)
    · replace hf := (if_pos c6).symm.trans hf
      refine lv_iinc (v := (x3 + (1 : Int32))) (lv' := [(3, .int (x3 + (1 : Int32))), (0, .ref (ka K 1)), (2, .int x2)]) hx hb dX1_isZero_40 hl (k := 2) rfl rfl (by decide) rfl (fun ls hl => ?_)
      refine lv_goto (tgt := 25) hx hb dX1_isZero_43 (by decide) ?_
      exact hk25 _ _ hf _ _ _ (lv_sub hl [1, 2, 0] rfl) hW
    · replace hf := (if_neg c6).symm.trans hf
      refine lv_iconst (v := (0 : Int32)) hx hb dX1_isZero_38 (by decide) ?_
      exact gw_retz F hW hf (Or.inl rfl) dX1_isZero_39
set_option maxHeartbeats 4000000 in
set_option maxRecDepth 100000 in
theorem wXX1_isZero_1_2 {p : Program} {l : Launch} {e : Env} {s : State} {m : MethodId} {args : Array Value} {below : List Frame} {meth : Method} {c : Code} {A : Nat → Prop} {K : KX} (F : fx_ p s m args meth c cX1_isZero 4 (some .boolean) RX1 wsX1_isZero) {k2 : (Int32 × Int32 × XS) → Option (Int32 × XS)} (hk2 : ∀ t o, k2 t = some o → PXX1_isZero_1_2 p l e s m args below meth c A K t o) (x2 : Int32) (x3 : Int32) (σ : XS) (o : (Int32 × XS)) (hf : fXX1_isZero_1_2 (kn K) k2 x2 x3 σ = some o) (H : Heap) (locs : List Loc) (ls : Array Slot) (hl : lv_has ls 4 [(0, .ref (ka K 1)), (2, .int x2), (3, .int x3)]) (hW : gw_ (kD K) vwCl (tyX K) (wX K) A s σ H locs) : W p l e rXX1_isZero_1 s m args below meth c H locs 0 0 (MQ below (va_Qi (fun r u => (r = o.1 ∧ u = o.2) ∧ (o.1 = 0 ∨ o.1 = 1)) (gw_B (kD K) vwCl (tyX K) (wX K) A) A) args s rXX1_isZero_1.cells rXX1_isZero_1.slots A) (F0 m 2 ls []) := by
  have hx := F.1
  have hb := F.2.1
  have hml := F.2.2.2.1
  have hown := F.2.2.2.2.1
  have hts := F.2.2.2.2.2.1
  have hG : ∀ x ∈ gT, x.before args s = true := fun x h => hts x (List.mem_cons_of_mem _ h)
  unfold fXX1_isZero_1_2 at hf
  refine lv_iload_n hx hb dX1_isZero_2 rfl (lv_at hl 2 rfl) ?_
  refine lv_iload_n hx hb dX1_isZero_3 rfl (lv_at hl 1 rfl) ?_
  refine lv_iconst (v := (4 : Int32)) hx hb dX1_isZero_4 (by decide) ?_
  refine lv_isub hx hb dX1_isZero_5 ?_
  refine lv_icmp_gt (tgt := 25) hx hb dX1_isZero_6 (by decide) (fun c1 => ?_) (fun c1 => ?_)
  · replace hf := (if_pos c1).symm.trans hf
    exact lfix_ind (P := PXX1_isZero_1_25 p l e s m args below meth c A K) (fun k25 hk25 t o hf => wXX1_isZero_1_25 F hk25 t.1 t.2.1 t.2.2 o hf) FU _ _ hf _ _ _ (lv_sub hl [0, 1, 2] rfl) hW
  · replace hf := (if_neg c1).symm.trans hf
    refine lv_aload_n hx hb dX1_isZero_9 rfl (lv_at hl 0 rfl) ?_
    refine lv_iload_n hx hb dX1_isZero_10 rfl (lv_at hl 2 rfl) ?_
    obtain ⟨o7, h8, hf⟩ := gw_bind hf
    refine gw_Vi (As := [.int x3]) (mc' := 0) (ms' := 0) F hW (mXX1_get4_1 h8) (cwV 1 hts (gT_V q_2_126 q_2_114 q_2_115 q_1_3 q_2_116) rfl rfl rfl hdX1_get4 ⟨Nat.le_of_ble_eq_true rfl, Nat.le_of_ble_eq_true rfl⟩) 1 1 (aX_1 K σ) rfl rfl hl.1 rfl (Nat.le_of_ble_eq_true rfl) dX1_isZero_11 ⟨Nat.le_of_ble_eq_true rfl, Nat.le_of_ble_eq_true rfl⟩ rfl rfl (fun H locs hW => ?_)
    refine lv_if_eq (tgt := 19) hx hb dX1_isZero_14 (by decide) (fun c10 => ?_) (fun c10 => ?_)
    · replace hf := (if_pos c10).symm.trans hf
      refine lv_iinc (v := (x3 + (4 : Int32))) (lv' := [(3, .int (x3 + (4 : Int32))), (0, .ref (ka K 1)), (2, .int x2)]) hx hb dX1_isZero_19 hl (k := 2) rfl rfl (by decide) rfl (fun ls hl => ?_)
      refine lv_goto (tgt := 2) hx hb dX1_isZero_22 (by decide) ?_
      exact hk2 _ _ hf _ _ _ (lv_sub hl [1, 2, 0] rfl) hW
    · replace hf := (if_neg c10).symm.trans hf
      refine lv_iconst (v := (0 : Int32)) hx hb dX1_isZero_17 (by decide) ?_
      exact gw_retz F hW hf (Or.inl rfl) dX1_isZero_18
set_option maxHeartbeats 4000000 in
set_option maxRecDepth 100000 in
theorem wXX1_isZero_1_0 {p : Program} {l : Launch} {e : Env} {s : State} {m : MethodId} {args : Array Value} {below : List Frame} {meth : Method} {c : Code} {A : Nat → Prop} {K : KX} (F : fx_ p s m args meth c cX1_isZero 4 (some .boolean) RX1 wsX1_isZero) (x1 : Int32) (x2 : Int32) (σ : XS) (o : (Int32 × XS)) (hf : fXX1_isZero_1_0 (kn K) x1 x2 σ = some o) (H : Heap) (locs : List Loc) (ls : Array Slot) (hl : lv_has ls 4 [(0, .ref (ka K 1)), (1, .int x1), (2, .int x2)]) (hW : gw_ (kD K) vwCl (tyX K) (wX K) A s σ H locs) : W p l e rXX1_isZero_1 s m args below meth c H locs 0 0 (MQ below (va_Qi (fun r u => (r = o.1 ∧ u = o.2) ∧ (o.1 = 0 ∨ o.1 = 1)) (gw_B (kD K) vwCl (tyX K) (wX K) A) A) args s rXX1_isZero_1.cells rXX1_isZero_1.slots A) (F0 m 0 ls []) := by
  have hx := F.1
  have hb := F.2.1
  have hml := F.2.2.2.1
  have hown := F.2.2.2.2.1
  have hts := F.2.2.2.2.2.1
  have hG : ∀ x ∈ gT, x.before args s = true := fun x h => hts x (List.mem_cons_of_mem _ h)
  unfold fXX1_isZero_1_0 at hf
  refine lv_iload_n hx hb dX1_isZero_0 rfl (lv_at hl 1 rfl) ?_
  refine lv_istore_n (lv' := [(3, .int x1), (0, .ref (ka K 1)), (1, .int x1), (2, .int x2)]) hx hb dX1_isZero_1 rfl hl (by decide) rfl (fun ls hl => ?_)
  exact lfix_ind (P := PXX1_isZero_1_2 p l e s m args below meth c A K) (fun k2 hk2 t o hf => wXX1_isZero_1_2 F hk2 t.1 t.2.1 t.2.2 o hf) FU _ _ hf _ _ _ (lv_sub hl [1, 3, 0] rfl) hW
set_option maxHeartbeats 4000000 in
set_option maxRecDepth 100000 in
theorem mXX1_isZero_1 {l : Launch} {K : KX} {σ : XS} {x1 : Int32} {x2 : Int32} {o : (Int32 × XS)} (hf : fXX1_isZero_1 (kn K) x1 x2 σ = some o) : gw_Mz l (kD K) vwCl (tyX K) (wX K) yX1_isZero wsX1_isZero rXX1_isZero_1 [.ref (ka K 1), .int x1, .int x2] σ o := by
  intro sz
  refine gw_body (cc := cX1_isZero) (maxL := 4) (yret := some .boolean) (by decide +kernel) rfl ?_ (Nat.le_of_ble_eq_true rfl)
  intro p e s m below meth c F hsz hW ls hl
  exact wXX1_isZero_1_0 F x1 x2 σ o hf s.heap [] ls hl hW
abbrev rXX2_choose_3 : Room := { frames := 0, cells := 0, slots := 0, locals := 0 }
set_option maxHeartbeats 4000000 in
set_option maxRecDepth 100000 in
theorem wXX2_choose_3_84 {p : Program} {l : Launch} {e : Env} {s : State} {m : MethodId} {args : Array Value} {below : List Frame} {meth : Method} {c : Code} {A : Nat → Prop} {K : KX} (F : fx_ p s m args meth c cX2_choose 7 (some .boolean) RX2 wsX2_choose) (x1 : Int32) (x4 : Int32) (x5 : Int32) (σ : XS) (o : (Int32 × XS)) (hf : fXX2_choose_3_84 (kn K) x1 x4 x5 σ = some o) (H : Heap) (locs : List Loc) (ls : Array Slot) (hl : lv_has ls 7 [(0, .ref (ka K 3)), (1, .int x1), (4, .int x4), (5, .int x5)]) (hW : gw_ (kD K) vwCl (tyX K) (wX K) A s σ H locs) : W p l e rXX2_choose_3 s m args below meth c H locs 0 0 (MQ below (va_Qi (fun r u => (r = o.1 ∧ u = o.2) ∧ (o.1 = 0 ∨ o.1 = 1)) (gw_B (kD K) vwCl (tyX K) (wX K) A) A) args s rXX2_choose_3.cells rXX2_choose_3.slots A) (F0 m 84 ls []) := by
  have hx := F.1
  have hb := F.2.1
  have hml := F.2.2.2.1
  have hown := F.2.2.2.2.1
  have hts := F.2.2.2.2.2.1
  have hG : ∀ x ∈ gT, x.before args s = true := fun x h => hts x (List.mem_cons_of_mem _ h)
  unfold fXX2_choose_3_84 at hf
  refine lv_aload_n hx hb dX2_choose_84 rfl (lv_at hl 0 rfl) ?_
  refine gw_get (v := .int (Int32.ofNat (kn K))) F inc_X2 hW 3 2 0 (aX_3 K σ) rfl (by decide) (hG _ q_1_64) (fun _ h9 => h9) rfl dX2_choose_85 ?_
  refine lv_iconst (v := (1 : Int32)) hx hb dX2_choose_88 (by decide) ?_
  refine lv_isub hx hb dX2_choose_89 ?_
  refine lv_iload hx hb dX2_choose_90 (lv_at hl 2 rfl) ?_
  refine lv_iconst (v := (1 : Int32)) hx hb dX2_choose_92 (by decide) ?_
  refine lv_isub hx hb dX2_choose_93 ?_
  refine lv_iload_n hx hb dX2_choose_94 rfl (lv_at hl 1 rfl) ?_
  refine lv_imul hx hb dX2_choose_95 ?_
  refine lv_isub hx hb dX2_choose_96 ?_
  refine lv_istore (lv' := [(6, .int (((Int32.ofNat (kn K)) - (1 : Int32)) - ((x4 - (1 : Int32)) * x1))), (0, .ref (ka K 3)), (1, .int x1), (4, .int x4), (5, .int x5)]) hx hb dX2_choose_97 hl (by decide) rfl (fun ls hl => ?_)
  refine lv_iload hx hb dX2_choose_99 (lv_at hl 0 rfl) ?_
  refine lv_iconst (v := (4 : Int32)) hx hb dX2_choose_101 (by decide) ?_
  refine lv_iload hx hb dX2_choose_102 (lv_at hl 4 rfl) ?_
  refine lv_iadd hx hb dX2_choose_104 ?_
  refine lv_bipush (v := (8 : Int32)) hx hb dX2_choose_105 (by decide) ?_
  refine lv_iadd hx hb dX2_choose_107 ?_
  refine lv_icmp_ge (tgt := 113) hx hb dX2_choose_108 (by decide) (fun c15 => ?_) (fun c15 => ?_)
  · replace hf := (if_pos c15).symm.trans hf
    refine lv_aload_n hx hb dX2_choose_113 rfl (lv_at hl 1 rfl) ?_
    refine lv_iload_n hx hb dX2_choose_114 rfl (lv_at hl 2 rfl) ?_
    refine gw_put (σ' := (stS σ 2 x1)) (ty := .int) F inc_X2 tyX2 tyX2_ok nmX2 hW 3 2 1 (aX_3 K σ) rfl (by decide) (hG _ q_1_65) (fun _ h9 => h9) rfl (by decide +kernel) rfl rfl (Nat.le_of_ble_eq_true rfl) dX2_choose_115 (sSX_2 _ _ _) (fun H locs hW => ?_)
    refine lv_aload_n hx hb dX2_choose_118 rfl (lv_at hl 1 rfl) ?_
    refine lv_iload hx hb dX2_choose_119 (lv_at hl 3 rfl) ?_
    refine gw_put (σ' := (stS (stS σ 2 x1) 3 x4)) (ty := .int) F inc_X2 tyX2 tyX2_ok nmX2 hW 3 2 2 (aX_3 K (stS σ 2 x1)) rfl (by decide) (hG _ q_1_66) (fun _ h9 => h9) rfl (by decide +kernel) rfl rfl (Nat.le_of_ble_eq_true rfl) dX2_choose_121 (sSX_3 _ _ _) (fun H locs hW => ?_)
    refine lv_aload_n hx hb dX2_choose_124 rfl (lv_at hl 1 rfl) ?_
    refine lv_bipush (v := (8 : Int32)) hx hb dX2_choose_125 (by decide) ?_
    refine lv_iload hx hb dX2_choose_127 (lv_at hl 4 rfl) ?_
    refine lv_imul hx hb dX2_choose_129 ?_
    refine gw_put (σ' := (stS (stS (stS σ 2 x1) 3 x4) 4 ((8 : Int32) * x5))) (ty := .int) F inc_X2 tyX2 tyX2_ok nmX2 hW 3 2 3 (aX_3 K (stS (stS σ 2 x1) 3 x4)) rfl (by decide) (hG _ q_1_67) (fun _ h9 => h9) rfl (by decide +kernel) rfl rfl (Nat.le_of_ble_eq_true rfl) dX2_choose_130 (sSX_4 _ _ _) (fun H locs hW => ?_)
    refine lv_iconst (v := (1 : Int32)) hx hb dX2_choose_133 (by decide) ?_
    exact gw_retz F hW hf (Or.inr rfl) dX2_choose_134
  · replace hf := (if_neg c15).symm.trans hf
    refine lv_iconst (v := (0 : Int32)) hx hb dX2_choose_111 (by decide) ?_
    exact gw_retz F hW hf (Or.inl rfl) dX2_choose_112
set_option maxHeartbeats 4000000 in
set_option maxRecDepth 100000 in
theorem wXX2_choose_3_25 {p : Program} {l : Launch} {e : Env} {s : State} {m : MethodId} {args : Array Value} {below : List Frame} {meth : Method} {c : Code} {A : Nat → Prop} {K : KX} (F : fx_ p s m args meth c cX2_choose 7 (some .boolean) RX2 wsX2_choose) (x1 : Int32) (x2 : Int32) (y0 : Int32) (σ : XS) (o : (Int32 × XS)) (hf : fXX2_choose_3_25 (kn K) x1 x2 y0 σ = some o) (H : Heap) (locs : List Loc) (ls : Array Slot) (hl : lv_has ls 7 [(0, .ref (ka K 3)), (1, .int x1), (2, .int x2)]) (hW : gw_ (kD K) vwCl (tyX K) (wX K) A s σ H locs) : W p l e rXX2_choose_3 s m args below meth c H locs 0 0 (MQ below (va_Qi (fun r u => (r = o.1 ∧ u = o.2) ∧ (o.1 = 0 ∨ o.1 = 1)) (gw_B (kD K) vwCl (tyX K) (wX K) A) A) args s rXX2_choose_3.cells rXX2_choose_3.slots A) (F0 m 25 ls [.int y0]) := by
  have hx := F.1
  have hb := F.2.1
  have hml := F.2.2.2.1
  have hown := F.2.2.2.2.1
  have hts := F.2.2.2.2.2.1
  have hG : ∀ x ∈ gT, x.before args s = true := fun x h => hts x (List.mem_cons_of_mem _ h)
  unfold fXX2_choose_3_25 at hf
  refine lv_istore_n (lv' := [(3, .int y0), (0, .ref (ka K 3)), (1, .int x1), (2, .int x2)]) hx hb dX2_choose_25 rfl hl (by decide) rfl (fun ls hl => ?_)
  refine lv_iload_n hx hb dX2_choose_26 rfl (lv_at hl 0 rfl) ?_
  refine lv_if_eq (tgt := 43) hx hb dX2_choose_27 (by decide) (fun c9 => ?_) (fun c9 => ?_)
  · replace hf := (if_pos c9).symm.trans hf
    refine lv_iconst (v := (0 : Int32)) hx hb dX2_choose_43 (by decide) ?_
    exact gw_retz F hW hf (Or.inl rfl) dX2_choose_44
  · replace hf := (if_neg c9).symm.trans hf
    refine lv_iload_n hx hb dX2_choose_30 rfl (lv_at hl 3 rfl) ?_
    refine lv_bipush (v := (12 : Int32)) hx hb dX2_choose_31 (by decide) ?_
    refine lv_icmp_lt (tgt := 43) hx hb dX2_choose_33 (by decide) (fun c10 => ?_) (fun c10 => ?_)
    · replace hf := (if_pos c10).symm.trans hf
      refine lv_iconst (v := (0 : Int32)) hx hb dX2_choose_43 (by decide) ?_
      exact gw_retz F hW hf (Or.inl rfl) dX2_choose_44
    · replace hf := (if_neg c10).symm.trans hf
      refine lv_iload_n hx hb dX2_choose_36 rfl (lv_at hl 3 rfl) ?_
      refine lv_sipush (v := (2000 : Int32)) hx hb dX2_choose_37 (by decide) ?_
      refine lv_icmp_le (tgt := 45) hx hb dX2_choose_40 (by decide) (fun c11 => ?_) (fun c11 => ?_)
      · replace hf := (if_pos c11).symm.trans hf
        refine lv_aload_n hx hb dX2_choose_45 rfl (lv_at hl 1 rfl) ?_
        refine gw_get (v := .int (Int32.ofNat (kn K))) F inc_X2 hW 3 2 0 (aX_3 K σ) rfl (by decide) (hG _ q_1_64) (fun _ h9 => h9) rfl dX2_choose_46 ?_
        refine lv_iconst (v := (1 : Int32)) hx hb dX2_choose_49 (by decide) ?_
        refine lv_isub hx hb dX2_choose_50 ?_
        refine lv_iload_n hx hb dX2_choose_51 rfl (lv_at hl 2 rfl) ?_
        refine lv_iadd hx hb dX2_choose_52 ?_
        refine lv_iconst (v := (1 : Int32)) hx hb dX2_choose_53 (by decide) ?_
        refine lv_isub hx hb dX2_choose_54 ?_
        refine lv_iload_n hx hb dX2_choose_55 rfl (lv_at hl 2 rfl) ?_
        rcases Decidable.em (x1 = 0) with c12 | c12
        · replace hf := (if_pos c12).symm.trans hf
          exact absurd hf (by simp)
        · replace hf := (if_neg c12).symm.trans hf
          refine lv_idiv hx hb dX2_choose_56 c12 ?_
          refine lv_istore (lv' := [(4, .int (((((Int32.ofNat (kn K)) - (1 : Int32)) + x1) - (1 : Int32)) / x1)), (3, .int y0), (0, .ref (ka K 3)), (1, .int x1), (2, .int x2)]) hx hb dX2_choose_57 hl (by decide) rfl (fun ls hl => ?_)
          refine lv_iload hx hb dX2_choose_59 (lv_at hl 0 rfl) ?_
          refine lv_iconst (v := (1 : Int32)) hx hb dX2_choose_61 (by decide) ?_
          refine lv_icmp_ge (tgt := 67) hx hb dX2_choose_62 (by decide) (fun c13 => ?_) (fun c13 => ?_)
          · replace hf := (if_pos c13).symm.trans hf
            refine lv_iload_n hx hb dX2_choose_67 rfl (lv_at hl 4 rfl) ?_
            refine lv_bipush (v := (8 : Int32)) hx hb dX2_choose_68 (by decide) ?_
            refine lv_iload hx hb dX2_choose_70 (lv_at hl 0 rfl) ?_
            refine lv_imul hx hb dX2_choose_72 ?_
            refine lv_iadd hx hb dX2_choose_73 ?_
            refine lv_iconst (v := (1 : Int32)) hx hb dX2_choose_74 (by decide) ?_
            refine lv_isub hx hb dX2_choose_75 ?_
            refine lv_bipush (v := (8 : Int32)) hx hb dX2_choose_76 (by decide) ?_
            refine lv_iload hx hb dX2_choose_78 (lv_at hl 0 rfl) ?_
            refine lv_imul hx hb dX2_choose_80 ?_
            rcases Decidable.em (((8 : Int32) * (((((Int32.ofNat (kn K)) - (1 : Int32)) + x1) - (1 : Int32)) / x1)) = 0) with c14 | c14
            · replace hf := (if_pos c14).symm.trans hf
              exact absurd hf (by simp)
            · replace hf := (if_neg c14).symm.trans hf
              refine lv_idiv hx hb dX2_choose_81 c14 ?_
              refine lv_istore (lv' := [(5, .int (((x2 + ((8 : Int32) * (((((Int32.ofNat (kn K)) - (1 : Int32)) + x1) - (1 : Int32)) / x1))) - (1 : Int32)) / ((8 : Int32) * (((((Int32.ofNat (kn K)) - (1 : Int32)) + x1) - (1 : Int32)) / x1)))), (4, .int (((((Int32.ofNat (kn K)) - (1 : Int32)) + x1) - (1 : Int32)) / x1)), (3, .int y0), (0, .ref (ka K 3)), (1, .int x1), (2, .int x2)]) hx hb dX2_choose_82 hl (by decide) rfl (fun ls hl => ?_)
              exact wXX2_choose_3_84 F x1 (((((Int32.ofNat (kn K)) - (1 : Int32)) + x1) - (1 : Int32)) / x1) (((x2 + ((8 : Int32) * (((((Int32.ofNat (kn K)) - (1 : Int32)) + x1) - (1 : Int32)) / x1))) - (1 : Int32)) / ((8 : Int32) * (((((Int32.ofNat (kn K)) - (1 : Int32)) + x1) - (1 : Int32)) / x1))) _ _ hf _ _ _ (lv_sub hl [3, 4, 1, 0] rfl) hW
          · replace hf := (if_neg c13).symm.trans hf
            refine lv_iconst (v := (0 : Int32)) hx hb dX2_choose_65 (by decide) ?_
            exact gw_retz F hW hf (Or.inl rfl) dX2_choose_66
      · replace hf := (if_neg c11).symm.trans hf
        refine lv_iconst (v := (0 : Int32)) hx hb dX2_choose_43 (by decide) ?_
        exact gw_retz F hW hf (Or.inl rfl) dX2_choose_44
set_option maxHeartbeats 4000000 in
set_option maxRecDepth 100000 in
theorem wXX2_choose_3_20 {p : Program} {l : Launch} {e : Env} {s : State} {m : MethodId} {args : Array Value} {below : List Frame} {meth : Method} {c : Code} {A : Nat → Prop} {K : KX} (F : fx_ p s m args meth c cX2_choose 7 (some .boolean) RX2 wsX2_choose) (x1 : Int32) (x2 : Int32) (σ : XS) (o : (Int32 × XS)) (hf : fXX2_choose_3_20 (kn K) x1 x2 σ = some o) (H : Heap) (locs : List Loc) (ls : Array Slot) (hl : lv_has ls 7 [(0, .ref (ka K 3)), (1, .int x1), (2, .int x2)]) (hW : gw_ (kD K) vwCl (tyX K) (wX K) A s σ H locs) : W p l e rXX2_choose_3 s m args below meth c H locs 0 0 (MQ below (va_Qi (fun r u => (r = o.1 ∧ u = o.2) ∧ (o.1 = 0 ∨ o.1 = 1)) (gw_B (kD K) vwCl (tyX K) (wX K) A) A) args s rXX2_choose_3.cells rXX2_choose_3.slots A) (F0 m 20 ls []) := by
  have hx := F.1
  have hb := F.2.1
  have hml := F.2.2.2.1
  have hown := F.2.2.2.2.1
  have hts := F.2.2.2.2.2.1
  have hG : ∀ x ∈ gT, x.before args s = true := fun x h => hts x (List.mem_cons_of_mem _ h)
  unfold fXX2_choose_3_20 at hf
  refine lv_iconst (v := (1 : Int32)) hx hb dX2_choose_20 (by decide) ?_
  refine lv_goto (tgt := 25) hx hb dX2_choose_21 (by decide) ?_
  exact wXX2_choose_3_25 F x1 x2 (1 : Int32) _ _ hf _ _ _ (lv_sub hl [0, 1, 2] rfl) hW
set_option maxHeartbeats 4000000 in
set_option maxRecDepth 100000 in
theorem wXX2_choose_3_0 {p : Program} {l : Launch} {e : Env} {s : State} {m : MethodId} {args : Array Value} {below : List Frame} {meth : Method} {c : Code} {A : Nat → Prop} {K : KX} (F : fx_ p s m args meth c cX2_choose 7 (some .boolean) RX2 wsX2_choose) (x1 : Int32) (x2 : Int32) (σ : XS) (o : (Int32 × XS)) (hf : fXX2_choose_3_0 (kn K) x1 x2 σ = some o) (H : Heap) (locs : List Loc) (ls : Array Slot) (hl : lv_has ls 7 [(0, .ref (ka K 3)), (1, .int x1), (2, .int x2)]) (hW : gw_ (kD K) vwCl (tyX K) (wX K) A s σ H locs) : W p l e rXX2_choose_3 s m args below meth c H locs 0 0 (MQ below (va_Qi (fun r u => (r = o.1 ∧ u = o.2) ∧ (o.1 = 0 ∨ o.1 = 1)) (gw_B (kD K) vwCl (tyX K) (wX K) A) A) args s rXX2_choose_3.cells rXX2_choose_3.slots A) (F0 m 0 ls []) := by
  have hx := F.1
  have hb := F.2.1
  have hml := F.2.2.2.1
  have hown := F.2.2.2.2.1
  have hts := F.2.2.2.2.2.1
  have hG : ∀ x ∈ gT, x.before args s = true := fun x h => hts x (List.mem_cons_of_mem _ h)
  unfold fXX2_choose_3_0 at hf
  refine lv_iload_n hx hb dX2_choose_0 rfl (lv_at hl 1 rfl) ?_
  refine lv_bipush (v := (64 : Int32)) hx hb dX2_choose_1 (by decide) ?_
  refine lv_icmp_eq (tgt := 20) hx hb dX2_choose_3 (by decide) (fun c8 => ?_) (fun c8 => ?_)
  · replace hf := (if_pos c8).symm.trans hf
    exact wXX2_choose_3_20 F x1 x2 _ _ hf _ _ _ (lv_sub hl [0, 1, 2] rfl) hW
  · replace hf := (if_neg c8).symm.trans hf
    refine lv_iload_n hx hb dX2_choose_6 rfl (lv_at hl 1 rfl) ?_
    refine lv_sipush (v := (128 : Int32)) hx hb dX2_choose_7 (by decide) ?_
    refine lv_icmp_eq (tgt := 20) hx hb dX2_choose_10 (by decide) (fun c16 => ?_) (fun c16 => ?_)
    · replace hf := (if_pos c16).symm.trans hf
      exact wXX2_choose_3_20 F x1 x2 _ _ hf _ _ _ (lv_sub hl [0, 1, 2] rfl) hW
    · replace hf := (if_neg c16).symm.trans hf
      refine lv_iload_n hx hb dX2_choose_13 rfl (lv_at hl 1 rfl) ?_
      refine lv_sipush (v := (256 : Int32)) hx hb dX2_choose_14 (by decide) ?_
      refine lv_icmp_ne (tgt := 24) hx hb dX2_choose_17 (by decide) (fun c17 => ?_) (fun c17 => ?_)
      · replace hf := (if_neg c17).symm.trans hf
        refine lv_iconst (v := (0 : Int32)) hx hb dX2_choose_24 (by decide) ?_
        exact wXX2_choose_3_25 F x1 x2 (0 : Int32) _ _ hf _ _ _ (lv_sub hl [0, 1, 2] rfl) hW
      · replace hf := (if_pos c17).symm.trans hf
        exact wXX2_choose_3_20 F x1 x2 _ _ hf _ _ _ (lv_sub hl [0, 1, 2] rfl) hW
set_option maxHeartbeats 4000000 in
set_option maxRecDepth 100000 in
theorem mXX2_choose_3 {l : Launch} {K : KX} {σ : XS} {x1 : Int32} {x2 : Int32} {o : (Int32 × XS)} (hf : fXX2_choose_3 (kn K) x1 x2 σ = some o) : gw_Mz l (kD K) vwCl (tyX K) (wX K) yX2_choose wsX2_choose rXX2_choose_3 [.ref (ka K 3), .int x1, .int x2] σ o := by
  intro sz
  refine gw_body (cc := cX2_choose) (maxL := 7) (yret := some .boolean) (by decide +kernel) rfl ?_ (Nat.le_of_ble_eq_true rfl)
  intro p e s m below meth c F hsz hW ls hl
  exact wXX2_choose_3_0 F x1 x2 σ o hf s.heap [] ls hl hW
abbrev rXX2_blocks_3 : Room := { frames := 0, cells := 0, slots := 0, locals := 0 }
set_option maxHeartbeats 4000000 in
set_option maxRecDepth 100000 in
theorem wXX2_blocks_3_0 {p : Program} {l : Launch} {e : Env} {s : State} {m : MethodId} {args : Array Value} {below : List Frame} {meth : Method} {c : Code} {A : Nat → Prop} {K : KX} (F : fx_ p s m args meth c cX2_blocks 1 (some .int) RX2 wsX2_blocks) (σ : XS) (o : (Int32 × XS)) (hf : fXX2_blocks_3_0 (kn K) σ = some o) (H : Heap) (locs : List Loc) (ls : Array Slot) (hl : lv_has ls 1 [(0, .ref (ka K 3))]) (hW : gw_ (kD K) vwCl (tyX K) (wX K) A s σ H locs) : W p l e rXX2_blocks_3 s m args below meth c H locs 0 0 (MQ below (gw_Qi (kD K) vwCl (tyX K) (wX K) A o) args s rXX2_blocks_3.cells rXX2_blocks_3.slots A) (F0 m 0 ls []) := by
  have hx := F.1
  have hb := F.2.1
  have hml := F.2.2.2.1
  have hown := F.2.2.2.2.1
  have hts := F.2.2.2.2.2.1
  have hG : ∀ x ∈ gT, x.before args s = true := fun x h => hts x (List.mem_cons_of_mem _ h)
  unfold fXX2_blocks_3_0 at hf
  refine lv_aload_n hx hb dX2_blocks_0 rfl (lv_at hl 0 rfl) ?_
  refine gw_get (v := .int (Int32.ofNat (kn K))) F inc_X2 hW 3 2 0 (aX_3 K σ) rfl (by decide) (hG _ q_1_64) (fun _ h9 => h9) rfl dX2_blocks_1 ?_
  exact gw_reti F hW hf dX2_blocks_4
set_option maxHeartbeats 4000000 in
set_option maxRecDepth 100000 in
theorem mXX2_blocks_3 {l : Launch} {K : KX} {σ : XS} {o : (Int32 × XS)} (hf : fXX2_blocks_3 (kn K) σ = some o) : gw_Mi l (kD K) vwCl (tyX K) (wX K) yX2_blocks wsX2_blocks rXX2_blocks_3 [.ref (ka K 3)] σ o := by
  intro sz
  refine gw_body (cc := cX2_blocks) (maxL := 1) (yret := some .int) (by decide +kernel) rfl ?_ (Nat.le_of_ble_eq_true rfl)
  intro p e s m below meth c F hsz hW ls hl
  exact wXX2_blocks_3_0 F σ o hf s.heap [] ls hl hW
abbrev rXX2_groups_3 : Room := { frames := 0, cells := 0, slots := 0, locals := 0 }
set_option maxHeartbeats 4000000 in
set_option maxRecDepth 100000 in
theorem wXX2_groups_3_0 {p : Program} {l : Launch} {e : Env} {s : State} {m : MethodId} {args : Array Value} {below : List Frame} {meth : Method} {c : Code} {A : Nat → Prop} {K : KX} (F : fx_ p s m args meth c cX2_groups 1 (some .int) RX2 wsX2_groups) (σ : XS) (o : (Int32 × XS)) (hf : fXX2_groups_3_0 (kn K) σ = some o) (H : Heap) (locs : List Loc) (ls : Array Slot) (hl : lv_has ls 1 [(0, .ref (ka K 3))]) (hW : gw_ (kD K) vwCl (tyX K) (wX K) A s σ H locs) : W p l e rXX2_groups_3 s m args below meth c H locs 0 0 (MQ below (gw_Qi (kD K) vwCl (tyX K) (wX K) A o) args s rXX2_groups_3.cells rXX2_groups_3.slots A) (F0 m 0 ls []) := by
  have hx := F.1
  have hb := F.2.1
  have hml := F.2.2.2.1
  have hown := F.2.2.2.2.1
  have hts := F.2.2.2.2.2.1
  have hG : ∀ x ∈ gT, x.before args s = true := fun x h => hts x (List.mem_cons_of_mem _ h)
  unfold fXX2_groups_3_0 at hf
  refine lv_aload_n hx hb dX2_groups_0 rfl (lv_at hl 0 rfl) ?_
  refine gw_get (v := .int (σ.1 3)) F inc_X2 hW 3 2 2 (aX_3 K σ) rfl (by decide) (hG _ q_1_66) (fun _ h9 => h9) rfl dX2_groups_1 ?_
  exact gw_reti F hW hf dX2_groups_4
set_option maxHeartbeats 4000000 in
set_option maxRecDepth 100000 in
theorem mXX2_groups_3 {l : Launch} {K : KX} {σ : XS} {o : (Int32 × XS)} (hf : fXX2_groups_3 (kn K) σ = some o) : gw_Mi l (kD K) vwCl (tyX K) (wX K) yX2_groups wsX2_groups rXX2_groups_3 [.ref (ka K 3)] σ o := by
  intro sz
  refine gw_body (cc := cX2_groups) (maxL := 1) (yret := some .int) (by decide +kernel) rfl ?_ (Nat.le_of_ble_eq_true rfl)
  intro p e s m below meth c F hsz hW ls hl
  exact wXX2_groups_3_0 F σ o hf s.heap [] ls hl hW
abbrev rXX2_groupBlocks_3 : Room := { frames := 0, cells := 0, slots := 0, locals := 0 }
set_option maxHeartbeats 4000000 in
set_option maxRecDepth 100000 in
theorem wXX2_groupBlocks_3_0 {p : Program} {l : Launch} {e : Env} {s : State} {m : MethodId} {args : Array Value} {below : List Frame} {meth : Method} {c : Code} {A : Nat → Prop} {K : KX} (F : fx_ p s m args meth c cX2_groupBlocks 1 (some .int) RX2 wsX2_groupBlocks) (σ : XS) (o : (Int32 × XS)) (hf : fXX2_groupBlocks_3_0 (kn K) σ = some o) (H : Heap) (locs : List Loc) (ls : Array Slot) (hl : lv_has ls 1 [(0, .ref (ka K 3))]) (hW : gw_ (kD K) vwCl (tyX K) (wX K) A s σ H locs) : W p l e rXX2_groupBlocks_3 s m args below meth c H locs 0 0 (MQ below (gw_Qi (kD K) vwCl (tyX K) (wX K) A o) args s rXX2_groupBlocks_3.cells rXX2_groupBlocks_3.slots A) (F0 m 0 ls []) := by
  have hx := F.1
  have hb := F.2.1
  have hml := F.2.2.2.1
  have hown := F.2.2.2.2.1
  have hts := F.2.2.2.2.2.1
  have hG : ∀ x ∈ gT, x.before args s = true := fun x h => hts x (List.mem_cons_of_mem _ h)
  unfold fXX2_groupBlocks_3_0 at hf
  refine lv_aload_n hx hb dX2_groupBlocks_0 rfl (lv_at hl 0 rfl) ?_
  refine gw_get (v := .int (σ.1 2)) F inc_X2 hW 3 2 1 (aX_3 K σ) rfl (by decide) (hG _ q_1_65) (fun _ h9 => h9) rfl dX2_groupBlocks_1 ?_
  exact gw_reti F hW hf dX2_groupBlocks_4
set_option maxHeartbeats 4000000 in
set_option maxRecDepth 100000 in
theorem mXX2_groupBlocks_3 {l : Launch} {K : KX} {σ : XS} {o : (Int32 × XS)} (hf : fXX2_groupBlocks_3 (kn K) σ = some o) : gw_Mi l (kD K) vwCl (tyX K) (wX K) yX2_groupBlocks wsX2_groupBlocks rXX2_groupBlocks_3 [.ref (ka K 3)] σ o := by
  intro sz
  refine gw_body (cc := cX2_groupBlocks) (maxL := 1) (yret := some .int) (by decide +kernel) rfl ?_ (Nat.le_of_ble_eq_true rfl)
  intro p e s m below meth c F hsz hW ls hl
  exact wXX2_groupBlocks_3_0 F σ o hf s.heap [] ls hl hW
abbrev rXX2_groupInodes_3 : Room := { frames := 0, cells := 0, slots := 0, locals := 0 }
set_option maxHeartbeats 4000000 in
set_option maxRecDepth 100000 in
theorem wXX2_groupInodes_3_0 {p : Program} {l : Launch} {e : Env} {s : State} {m : MethodId} {args : Array Value} {below : List Frame} {meth : Method} {c : Code} {A : Nat → Prop} {K : KX} (F : fx_ p s m args meth c cX2_groupInodes 1 (some .int) RX2 wsX2_groupInodes) (σ : XS) (o : (Int32 × XS)) (hf : fXX2_groupInodes_3_0 (kn K) σ = some o) (H : Heap) (locs : List Loc) (ls : Array Slot) (hl : lv_has ls 1 [(0, .ref (ka K 3))]) (hW : gw_ (kD K) vwCl (tyX K) (wX K) A s σ H locs) : W p l e rXX2_groupInodes_3 s m args below meth c H locs 0 0 (MQ below (gw_Qi (kD K) vwCl (tyX K) (wX K) A o) args s rXX2_groupInodes_3.cells rXX2_groupInodes_3.slots A) (F0 m 0 ls []) := by
  have hx := F.1
  have hb := F.2.1
  have hml := F.2.2.2.1
  have hown := F.2.2.2.2.1
  have hts := F.2.2.2.2.2.1
  have hG : ∀ x ∈ gT, x.before args s = true := fun x h => hts x (List.mem_cons_of_mem _ h)
  unfold fXX2_groupInodes_3_0 at hf
  refine lv_aload_n hx hb dX2_groupInodes_0 rfl (lv_at hl 0 rfl) ?_
  refine gw_get (v := .int (σ.1 4)) F inc_X2 hW 3 2 3 (aX_3 K σ) rfl (by decide) (hG _ q_1_67) (fun _ h9 => h9) rfl dX2_groupInodes_1 ?_
  exact gw_reti F hW hf dX2_groupInodes_4
set_option maxHeartbeats 4000000 in
set_option maxRecDepth 100000 in
theorem mXX2_groupInodes_3 {l : Launch} {K : KX} {σ : XS} {o : (Int32 × XS)} (hf : fXX2_groupInodes_3 (kn K) σ = some o) : gw_Mi l (kD K) vwCl (tyX K) (wX K) yX2_groupInodes wsX2_groupInodes rXX2_groupInodes_3 [.ref (ka K 3)] σ o := by
  intro sz
  refine gw_body (cc := cX2_groupInodes) (maxL := 1) (yret := some .int) (by decide +kernel) rfl ?_ (Nat.le_of_ble_eq_true rfl)
  intro p e s m below meth c F hsz hW ls hl
  exact wXX2_groupInodes_3_0 F σ o hf s.heap [] ls hl hW
abbrev rXX2_inodes_3 : Room := { frames := 0, cells := 0, slots := 0, locals := 0 }
set_option maxHeartbeats 4000000 in
set_option maxRecDepth 100000 in
theorem wXX2_inodes_3_0 {p : Program} {l : Launch} {e : Env} {s : State} {m : MethodId} {args : Array Value} {below : List Frame} {meth : Method} {c : Code} {A : Nat → Prop} {K : KX} (F : fx_ p s m args meth c cX2_inodes 1 (some .int) RX2 wsX2_inodes) (σ : XS) (o : (Int32 × XS)) (hf : fXX2_inodes_3_0 (kn K) σ = some o) (H : Heap) (locs : List Loc) (ls : Array Slot) (hl : lv_has ls 1 [(0, .ref (ka K 3))]) (hW : gw_ (kD K) vwCl (tyX K) (wX K) A s σ H locs) : W p l e rXX2_inodes_3 s m args below meth c H locs 0 0 (MQ below (gw_Qi (kD K) vwCl (tyX K) (wX K) A o) args s rXX2_inodes_3.cells rXX2_inodes_3.slots A) (F0 m 0 ls []) := by
  have hx := F.1
  have hb := F.2.1
  have hml := F.2.2.2.1
  have hown := F.2.2.2.2.1
  have hts := F.2.2.2.2.2.1
  have hG : ∀ x ∈ gT, x.before args s = true := fun x h => hts x (List.mem_cons_of_mem _ h)
  unfold fXX2_inodes_3_0 at hf
  refine lv_aload_n hx hb dX2_inodes_0 rfl (lv_at hl 0 rfl) ?_
  refine gw_get (v := .int (σ.1 3)) F inc_X2 hW 3 2 2 (aX_3 K σ) rfl (by decide) (hG _ q_1_66) (fun _ h9 => h9) rfl dX2_inodes_1 ?_
  refine lv_aload_n hx hb dX2_inodes_4 rfl (lv_at hl 0 rfl) ?_
  refine gw_get (v := .int (σ.1 4)) F inc_X2 hW 3 2 3 (aX_3 K σ) rfl (by decide) (hG _ q_1_67) (fun _ h9 => h9) rfl dX2_inodes_5 ?_
  refine lv_imul hx hb dX2_inodes_8 ?_
  exact gw_reti F hW hf dX2_inodes_9
set_option maxHeartbeats 4000000 in
set_option maxRecDepth 100000 in
theorem mXX2_inodes_3 {l : Launch} {K : KX} {σ : XS} {o : (Int32 × XS)} (hf : fXX2_inodes_3 (kn K) σ = some o) : gw_Mi l (kD K) vwCl (tyX K) (wX K) yX2_inodes wsX2_inodes rXX2_inodes_3 [.ref (ka K 3)] σ o := by
  intro sz
  refine gw_body (cc := cX2_inodes) (maxL := 1) (yret := some .int) (by decide +kernel) rfl ?_ (Nat.le_of_ble_eq_true rfl)
  intro p e s m below meth c F hsz hW ls hl
  exact wXX2_inodes_3_0 F σ o hf s.heap [] ls hl hW
abbrev rXX2_fixedBlocks_3 : Room := { frames := 0, cells := 0, slots := 0, locals := 0 }
set_option maxHeartbeats 4000000 in
set_option maxRecDepth 100000 in
theorem wXX2_fixedBlocks_3_0 {p : Program} {l : Launch} {e : Env} {s : State} {m : MethodId} {args : Array Value} {below : List Frame} {meth : Method} {c : Code} {A : Nat → Prop} {K : KX} (F : fx_ p s m args meth c cX2_fixedBlocks 1 (some .int) RX2 wsX2_fixedBlocks) (σ : XS) (o : (Int32 × XS)) (hf : fXX2_fixedBlocks_3_0 (kn K) σ = some o) (H : Heap) (locs : List Loc) (ls : Array Slot) (hl : lv_has ls 1 [(0, .ref (ka K 3))]) (hW : gw_ (kD K) vwCl (tyX K) (wX K) A s σ H locs) : W p l e rXX2_fixedBlocks_3 s m args below meth c H locs 0 0 (MQ below (gw_Qi (kD K) vwCl (tyX K) (wX K) A o) args s rXX2_fixedBlocks_3.cells rXX2_fixedBlocks_3.slots A) (F0 m 0 ls []) := by
  have hx := F.1
  have hb := F.2.1
  have hml := F.2.2.2.1
  have hown := F.2.2.2.2.1
  have hts := F.2.2.2.2.2.1
  have hG : ∀ x ∈ gT, x.before args s = true := fun x h => hts x (List.mem_cons_of_mem _ h)
  unfold fXX2_fixedBlocks_3_0 at hf
  refine lv_iconst (v := (4 : Int32)) hx hb dX2_fixedBlocks_0 (by decide) ?_
  refine lv_aload_n hx hb dX2_fixedBlocks_1 rfl (lv_at hl 0 rfl) ?_
  refine gw_get (v := .int (σ.1 4)) F inc_X2 hW 3 2 3 (aX_3 K σ) rfl (by decide) (hG _ q_1_67) (fun _ h9 => h9) rfl dX2_fixedBlocks_2 ?_
  refine lv_bipush (v := (8 : Int32)) hx hb dX2_fixedBlocks_5 (by decide) ?_
  refine lv_idiv hx hb dX2_fixedBlocks_7 (by decide) ?_
  refine lv_iadd hx hb dX2_fixedBlocks_8 ?_
  exact gw_reti F hW hf dX2_fixedBlocks_9
set_option maxHeartbeats 4000000 in
set_option maxRecDepth 100000 in
theorem mXX2_fixedBlocks_3 {l : Launch} {K : KX} {σ : XS} {o : (Int32 × XS)} (hf : fXX2_fixedBlocks_3 (kn K) σ = some o) : gw_Mi l (kD K) vwCl (tyX K) (wX K) yX2_fixedBlocks wsX2_fixedBlocks rXX2_fixedBlocks_3 [.ref (ka K 3)] σ o := by
  intro sz
  refine gw_body (cc := cX2_fixedBlocks) (maxL := 1) (yret := some .int) (by decide +kernel) rfl ?_ (Nat.le_of_ble_eq_true rfl)
  intro p e s m below meth c F hsz hW ls hl
  exact wXX2_fixedBlocks_3_0 F σ o hf s.heap [] ls hl hW
abbrev rXX2_firstBlock_3 : Room := { frames := 0, cells := 0, slots := 0, locals := 0 }
set_option maxHeartbeats 4000000 in
set_option maxRecDepth 100000 in
theorem wXX2_firstBlock_3_0 {p : Program} {l : Launch} {e : Env} {s : State} {m : MethodId} {args : Array Value} {below : List Frame} {meth : Method} {c : Code} {A : Nat → Prop} {K : KX} (F : fx_ p s m args meth c cX2_firstBlock 2 (some .int) RX2 wsX2_firstBlock) (x1 : Int32) (σ : XS) (o : (Int32 × XS)) (hf : fXX2_firstBlock_3_0 (kn K) x1 σ = some o) (H : Heap) (locs : List Loc) (ls : Array Slot) (hl : lv_has ls 2 [(0, .ref (ka K 3)), (1, .int x1)]) (hW : gw_ (kD K) vwCl (tyX K) (wX K) A s σ H locs) : W p l e rXX2_firstBlock_3 s m args below meth c H locs 0 0 (MQ below (gw_Qi (kD K) vwCl (tyX K) (wX K) A o) args s rXX2_firstBlock_3.cells rXX2_firstBlock_3.slots A) (F0 m 0 ls []) := by
  have hx := F.1
  have hb := F.2.1
  have hml := F.2.2.2.1
  have hown := F.2.2.2.2.1
  have hts := F.2.2.2.2.2.1
  have hG : ∀ x ∈ gT, x.before args s = true := fun x h => hts x (List.mem_cons_of_mem _ h)
  unfold fXX2_firstBlock_3_0 at hf
  refine lv_iconst (v := (1 : Int32)) hx hb dX2_firstBlock_0 (by decide) ?_
  refine lv_iload_n hx hb dX2_firstBlock_1 rfl (lv_at hl 1 rfl) ?_
  refine lv_aload_n hx hb dX2_firstBlock_2 rfl (lv_at hl 0 rfl) ?_
  refine gw_get (v := .int (σ.1 2)) F inc_X2 hW 3 2 1 (aX_3 K σ) rfl (by decide) (hG _ q_1_65) (fun _ h9 => h9) rfl dX2_firstBlock_3 ?_
  refine lv_imul hx hb dX2_firstBlock_6 ?_
  refine lv_iadd hx hb dX2_firstBlock_7 ?_
  exact gw_reti F hW hf dX2_firstBlock_8
set_option maxHeartbeats 4000000 in
set_option maxRecDepth 100000 in
theorem mXX2_firstBlock_3 {l : Launch} {K : KX} {σ : XS} {x1 : Int32} {o : (Int32 × XS)} (hf : fXX2_firstBlock_3 (kn K) x1 σ = some o) : gw_Mi l (kD K) vwCl (tyX K) (wX K) yX2_firstBlock wsX2_firstBlock rXX2_firstBlock_3 [.ref (ka K 3), .int x1] σ o := by
  intro sz
  refine gw_body (cc := cX2_firstBlock) (maxL := 2) (yret := some .int) (by decide +kernel) rfl ?_ (Nat.le_of_ble_eq_true rfl)
  intro p e s m below meth c F hsz hW ls hl
  exact wXX2_firstBlock_3_0 F x1 σ o hf s.heap [] ls hl hW
abbrev rXX2_blocksIn_3 : Room := { frames := 1, cells := 0, slots := 0, locals := 21 }
set_option maxHeartbeats 4000000 in
set_option maxRecDepth 100000 in
theorem wXX2_blocksIn_3_0 {p : Program} {l : Launch} {e : Env} {s : State} {m : MethodId} {args : Array Value} {below : List Frame} {meth : Method} {c : Code} {A : Nat → Prop} {K : KX} (F : fx_ p s m args meth c cX2_blocksIn 2 (some .int) RX2 wsX2_blocksIn) (x1 : Int32) (σ : XS) (o : (Int32 × XS)) (hf : fXX2_blocksIn_3_0 (kn K) x1 σ = some o) (H : Heap) (locs : List Loc) (ls : Array Slot) (hl : lv_has ls 2 [(0, .ref (ka K 3)), (1, .int x1)]) (hW : gw_ (kD K) vwCl (tyX K) (wX K) A s σ H locs) : W p l e rXX2_blocksIn_3 s m args below meth c H locs 0 0 (MQ below (gw_Qi (kD K) vwCl (tyX K) (wX K) A o) args s rXX2_blocksIn_3.cells rXX2_blocksIn_3.slots A) (F0 m 0 ls []) := by
  have hx := F.1
  have hb := F.2.1
  have hml := F.2.2.2.1
  have hown := F.2.2.2.2.1
  have hts := F.2.2.2.2.2.1
  have hG : ∀ x ∈ gT, x.before args s = true := fun x h => hts x (List.mem_cons_of_mem _ h)
  unfold fXX2_blocksIn_3_0 at hf
  refine lv_aload_n hx hb dX2_blocksIn_0 rfl (lv_at hl 0 rfl) ?_
  refine gw_get (v := .int (σ.1 2)) F inc_X2 hW 3 2 1 (aX_3 K σ) rfl (by decide) (hG _ q_1_65) (fun _ h9 => h9) rfl dX2_blocksIn_1 ?_
  refine lv_aload_n hx hb dX2_blocksIn_4 rfl (lv_at hl 0 rfl) ?_
  refine gw_get (v := .int (Int32.ofNat (kn K))) F inc_X2 hW 3 2 0 (aX_3 K σ) rfl (by decide) (hG _ q_1_64) (fun _ h9 => h9) rfl dX2_blocksIn_5 ?_
  refine lv_aload_n hx hb dX2_blocksIn_8 rfl (lv_at hl 0 rfl) ?_
  refine lv_iload_n hx hb dX2_blocksIn_9 rfl (lv_at hl 1 rfl) ?_
  obtain ⟨o1, h2, hf⟩ := gw_bind hf
  refine gw_Vi (As := [.int x1]) (mc' := 0) (ms' := 0) F hW (mXX2_firstBlock_3 h2) (cwV 1 hts (gT_V q_3_31 q_2_82 q_2_83 q_1_4 q_2_84) rfl rfl rfl hdX2_firstBlock ⟨Nat.le_of_ble_eq_true rfl, Nat.le_of_ble_eq_true rfl⟩) 3 2 (aX_3 K σ) rfl rfl hl.1 rfl (Nat.le_of_ble_eq_true rfl) dX2_blocksIn_10 ⟨Nat.le_of_ble_eq_true rfl, Nat.le_of_ble_eq_true rfl⟩ rfl rfl (fun H locs hW => ?_)
  refine lv_isub hx hb dX2_blocksIn_13 ?_
  refine va_mmin (own := RX2) hx hb (hml.trans hl.1.symm) hown (hG _ q_3_32) (hG _ q_1_41) (hG _ q_1_2) (hG _ q_1_42) (Nat.le_of_ble_eq_true rfl) (Nat.le_of_ble_eq_true rfl) (Nat.le_of_ble_eq_true rfl) (Nat.le_of_ble_eq_true rfl) dX2_blocksIn_14 ?_
  exact gw_reti F hW hf dX2_blocksIn_17
set_option maxHeartbeats 4000000 in
set_option maxRecDepth 100000 in
theorem mXX2_blocksIn_3 {l : Launch} {K : KX} {σ : XS} {x1 : Int32} {o : (Int32 × XS)} (hf : fXX2_blocksIn_3 (kn K) x1 σ = some o) : gw_Mi l (kD K) vwCl (tyX K) (wX K) yX2_blocksIn wsX2_blocksIn rXX2_blocksIn_3 [.ref (ka K 3), .int x1] σ o := by
  intro sz
  refine gw_body (cc := cX2_blocksIn) (maxL := 2) (yret := some .int) (by decide +kernel) rfl ?_ (Nat.le_of_ble_eq_true rfl)
  intro p e s m below meth c F hsz hW ls hl
  exact wXX2_blocksIn_3_0 F x1 σ o hf s.heap [] ls hl hW
abbrev rXX2_partAt_3 : Room := { frames := 0, cells := 0, slots := 0, locals := 0 }
set_option maxHeartbeats 4000000 in
set_option maxRecDepth 100000 in
theorem wXX2_partAt_3_0 {p : Program} {l : Launch} {e : Env} {s : State} {m : MethodId} {args : Array Value} {below : List Frame} {meth : Method} {c : Code} {A : Nat → Prop} {K : KX} (F : fx_ p s m args meth c cX2_partAt 3 (some .int) RX2 wsX2_partAt) (x1 : Int32) (x2 : Int32) (σ : XS) (o : (Int32 × XS)) (hf : fXX2_partAt_3_0 (kn K) x1 x2 σ = some o) (H : Heap) (locs : List Loc) (ls : Array Slot) (hl : lv_has ls 3 [(0, .ref (ka K 3)), (1, .int x1), (2, .int x2)]) (hW : gw_ (kD K) vwCl (tyX K) (wX K) A s σ H locs) : W p l e rXX2_partAt_3 s m args below meth c H locs 0 0 (MQ below (gw_Qi (kD K) vwCl (tyX K) (wX K) A o) args s rXX2_partAt_3.cells rXX2_partAt_3.slots A) (F0 m 0 ls []) := by
  have hx := F.1
  have hb := F.2.1
  have hml := F.2.2.2.1
  have hown := F.2.2.2.2.1
  have hts := F.2.2.2.2.2.1
  have hG : ∀ x ∈ gT, x.before args s = true := fun x h => hts x (List.mem_cons_of_mem _ h)
  unfold fXX2_partAt_3_0 at hf
  refine lv_iconst (v := (1 : Int32)) hx hb dX2_partAt_0 (by decide) ?_
  refine lv_iload_n hx hb dX2_partAt_1 rfl (lv_at hl 1 rfl) ?_
  refine lv_aload_n hx hb dX2_partAt_2 rfl (lv_at hl 0 rfl) ?_
  refine gw_get (v := .int (σ.1 2)) F inc_X2 hW 3 2 1 (aX_3 K σ) rfl (by decide) (hG _ q_1_65) (fun _ h9 => h9) rfl dX2_partAt_3 ?_
  refine lv_imul hx hb dX2_partAt_6 ?_
  refine lv_iadd hx hb dX2_partAt_7 ?_
  refine lv_iload_n hx hb dX2_partAt_8 rfl (lv_at hl 2 rfl) ?_
  refine lv_iadd hx hb dX2_partAt_9 ?_
  refine lv_sipush (v := (1024 : Int32)) hx hb dX2_partAt_10 (by decide) ?_
  refine lv_imul hx hb dX2_partAt_13 ?_
  exact gw_reti F hW hf dX2_partAt_14
set_option maxHeartbeats 4000000 in
set_option maxRecDepth 100000 in
theorem mXX2_partAt_3 {l : Launch} {K : KX} {σ : XS} {x1 : Int32} {x2 : Int32} {o : (Int32 × XS)} (hf : fXX2_partAt_3 (kn K) x1 x2 σ = some o) : gw_Mi l (kD K) vwCl (tyX K) (wX K) yX2_partAt wsX2_partAt rXX2_partAt_3 [.ref (ka K 3), .int x1, .int x2] σ o := by
  intro sz
  refine gw_body (cc := cX2_partAt) (maxL := 3) (yret := some .int) (by decide +kernel) rfl ?_ (Nat.le_of_ble_eq_true rfl)
  intro p e s m below meth c F hsz hW ls hl
  exact wXX2_partAt_3_0 F x1 x2 σ o hf s.heap [] ls hl hW
abbrev rXX2_groupOfInode_3 : Room := { frames := 0, cells := 0, slots := 0, locals := 0 }
set_option maxHeartbeats 4000000 in
set_option maxRecDepth 100000 in
theorem wXX2_groupOfInode_3_0 {p : Program} {l : Launch} {e : Env} {s : State} {m : MethodId} {args : Array Value} {below : List Frame} {meth : Method} {c : Code} {A : Nat → Prop} {K : KX} (F : fx_ p s m args meth c cX2_groupOfInode 2 (some .int) RX2 wsX2_groupOfInode) (x1 : Int32) (σ : XS) (o : (Int32 × XS)) (hf : fXX2_groupOfInode_3_0 (kn K) x1 σ = some o) (H : Heap) (locs : List Loc) (ls : Array Slot) (hl : lv_has ls 2 [(0, .ref (ka K 3)), (1, .int x1)]) (hW : gw_ (kD K) vwCl (tyX K) (wX K) A s σ H locs) : W p l e rXX2_groupOfInode_3 s m args below meth c H locs 0 0 (MQ below (gw_Qi (kD K) vwCl (tyX K) (wX K) A o) args s rXX2_groupOfInode_3.cells rXX2_groupOfInode_3.slots A) (F0 m 0 ls []) := by
  have hx := F.1
  have hb := F.2.1
  have hml := F.2.2.2.1
  have hown := F.2.2.2.2.1
  have hts := F.2.2.2.2.2.1
  have hG : ∀ x ∈ gT, x.before args s = true := fun x h => hts x (List.mem_cons_of_mem _ h)
  unfold fXX2_groupOfInode_3_0 at hf
  refine lv_aload_n hx hb dX2_groupOfInode_0 rfl (lv_at hl 0 rfl) ?_
  refine gw_get (v := .int (σ.1 4)) F inc_X2 hW 3 2 3 (aX_3 K σ) rfl (by decide) (hG _ q_1_67) (fun _ h9 => h9) rfl dX2_groupOfInode_1 ?_
  refine lv_if_le (tgt := 18) hx hb dX2_groupOfInode_4 (by decide) (fun c1 => ?_) (fun c1 => ?_)
  · replace hf := (if_pos c1).symm.trans hf
    refine lv_iconst (v := (0 : Int32)) hx hb dX2_groupOfInode_18 (by decide) ?_
    exact gw_reti F hW hf dX2_groupOfInode_19
  · replace hf := (if_neg c1).symm.trans hf
    refine lv_iload_n hx hb dX2_groupOfInode_7 rfl (lv_at hl 1 rfl) ?_
    refine lv_iconst (v := (1 : Int32)) hx hb dX2_groupOfInode_8 (by decide) ?_
    refine lv_isub hx hb dX2_groupOfInode_9 ?_
    refine lv_aload_n hx hb dX2_groupOfInode_10 rfl (lv_at hl 0 rfl) ?_
    refine gw_get (v := .int (σ.1 4)) F inc_X2 hW 3 2 3 (aX_3 K σ) rfl (by decide) (hG _ q_1_67) (fun _ h9 => h9) rfl dX2_groupOfInode_11 ?_
    rcases Decidable.em ((σ.1 4) = 0) with c2 | c2
    · replace hf := (if_pos c2).symm.trans hf
      exact absurd hf (by simp)
    · replace hf := (if_neg c2).symm.trans hf
      refine lv_idiv hx hb dX2_groupOfInode_14 c2 ?_
      refine lv_goto (tgt := 19) hx hb dX2_groupOfInode_15 (by decide) ?_
      exact gw_reti F hW hf dX2_groupOfInode_19
set_option maxHeartbeats 4000000 in
set_option maxRecDepth 100000 in
theorem mXX2_groupOfInode_3 {l : Launch} {K : KX} {σ : XS} {x1 : Int32} {o : (Int32 × XS)} (hf : fXX2_groupOfInode_3 (kn K) x1 σ = some o) : gw_Mi l (kD K) vwCl (tyX K) (wX K) yX2_groupOfInode wsX2_groupOfInode rXX2_groupOfInode_3 [.ref (ka K 3), .int x1] σ o := by
  intro sz
  refine gw_body (cc := cX2_groupOfInode) (maxL := 2) (yret := some .int) (by decide +kernel) rfl ?_ (Nat.le_of_ble_eq_true rfl)
  intro p e s m below meth c F hsz hW ls hl
  exact wXX2_groupOfInode_3_0 F x1 σ o hf s.heap [] ls hl hW
abbrev rXX2_inodeAt_3 : Room := { frames := 0, cells := 0, slots := 0, locals := 0 }
set_option maxHeartbeats 4000000 in
set_option maxRecDepth 100000 in
theorem wXX2_inodeAt_3_0 {p : Program} {l : Launch} {e : Env} {s : State} {m : MethodId} {args : Array Value} {below : List Frame} {meth : Method} {c : Code} {A : Nat → Prop} {K : KX} (F : fx_ p s m args meth c cX2_inodeAt 3 (some .int) RX2 wsX2_inodeAt) (x1 : Int32) (σ : XS) (o : (Int32 × XS)) (hf : fXX2_inodeAt_3_0 (kn K) x1 σ = some o) (H : Heap) (locs : List Loc) (ls : Array Slot) (hl : lv_has ls 3 [(0, .ref (ka K 3)), (1, .int x1)]) (hW : gw_ (kD K) vwCl (tyX K) (wX K) A s σ H locs) : W p l e rXX2_inodeAt_3 s m args below meth c H locs 0 0 (MQ below (gw_Qi (kD K) vwCl (tyX K) (wX K) A o) args s rXX2_inodeAt_3.cells rXX2_inodeAt_3.slots A) (F0 m 0 ls []) := by
  have hx := F.1
  have hb := F.2.1
  have hml := F.2.2.2.1
  have hown := F.2.2.2.2.1
  have hts := F.2.2.2.2.2.1
  have hG : ∀ x ∈ gT, x.before args s = true := fun x h => hts x (List.mem_cons_of_mem _ h)
  unfold fXX2_inodeAt_3_0 at hf
  refine lv_aload_n hx hb dX2_inodeAt_0 rfl (lv_at hl 0 rfl) ?_
  refine gw_get (v := .int (σ.1 4)) F inc_X2 hW 3 2 3 (aX_3 K σ) rfl (by decide) (hG _ q_1_67) (fun _ h9 => h9) rfl dX2_inodeAt_1 ?_
  refine lv_iconst (v := (1 : Int32)) hx hb dX2_inodeAt_4 (by decide) ?_
  refine lv_icmp_ge (tgt := 10) hx hb dX2_inodeAt_5 (by decide) (fun c1 => ?_) (fun c1 => ?_)
  · replace hf := (if_pos c1).symm.trans hf
    refine lv_iconst (v := (1 : Int32)) hx hb dX2_inodeAt_10 (by decide) ?_
    refine lv_iload_n hx hb dX2_inodeAt_11 rfl (lv_at hl 1 rfl) ?_
    refine lv_iconst (v := (1 : Int32)) hx hb dX2_inodeAt_12 (by decide) ?_
    refine lv_isub hx hb dX2_inodeAt_13 ?_
    refine lv_aload_n hx hb dX2_inodeAt_14 rfl (lv_at hl 0 rfl) ?_
    refine gw_get (v := .int (σ.1 4)) F inc_X2 hW 3 2 3 (aX_3 K σ) rfl (by decide) (hG _ q_1_67) (fun _ h9 => h9) rfl dX2_inodeAt_15 ?_
    rcases Decidable.em ((σ.1 4) = 0) with c2 | c2
    · replace hf := (if_pos c2).symm.trans hf
      exact absurd hf (by simp)
    · replace hf := (if_neg c2).symm.trans hf
      refine lv_idiv hx hb dX2_inodeAt_18 c2 ?_
      refine lv_aload_n hx hb dX2_inodeAt_19 rfl (lv_at hl 0 rfl) ?_
      refine gw_get (v := .int (σ.1 2)) F inc_X2 hW 3 2 1 (aX_3 K σ) rfl (by decide) (hG _ q_1_65) (fun _ h9 => h9) rfl dX2_inodeAt_20 ?_
      refine lv_imul hx hb dX2_inodeAt_23 ?_
      refine lv_iadd hx hb dX2_inodeAt_24 ?_
      refine lv_iconst (v := (4 : Int32)) hx hb dX2_inodeAt_25 (by decide) ?_
      refine lv_iadd hx hb dX2_inodeAt_26 ?_
      refine lv_istore_n (lv' := [(2, .int (((1 : Int32) + (((x1 - (1 : Int32)) / (σ.1 4)) * (σ.1 2))) + (4 : Int32))), (0, .ref (ka K 3)), (1, .int x1)]) hx hb dX2_inodeAt_27 rfl hl (by decide) rfl (fun ls hl => ?_)
      refine lv_iload_n hx hb dX2_inodeAt_28 rfl (lv_at hl 0 rfl) ?_
      refine lv_sipush (v := (1024 : Int32)) hx hb dX2_inodeAt_29 (by decide) ?_
      refine lv_imul hx hb dX2_inodeAt_32 ?_
      refine lv_iload_n hx hb dX2_inodeAt_33 rfl (lv_at hl 2 rfl) ?_
      refine lv_iconst (v := (1 : Int32)) hx hb dX2_inodeAt_34 (by decide) ?_
      refine lv_isub hx hb dX2_inodeAt_35 ?_
      refine lv_aload_n hx hb dX2_inodeAt_36 rfl (lv_at hl 1 rfl) ?_
      refine gw_get (v := .int (σ.1 4)) F inc_X2 hW 3 2 3 (aX_3 K σ) rfl (by decide) (hG _ q_1_67) (fun _ h9 => h9) rfl dX2_inodeAt_37 ?_
      rcases Decidable.em ((σ.1 4) = 0) with c3 | c3
      · replace hf := (if_pos c3).symm.trans hf
        exact absurd hf (by simp)
      · replace hf := (if_neg c3).symm.trans hf
        refine lv_irem hx hb dX2_inodeAt_40 c3 ?_
        refine lv_sipush (v := (128 : Int32)) hx hb dX2_inodeAt_41 (by decide) ?_
        refine lv_imul hx hb dX2_inodeAt_44 ?_
        refine lv_iadd hx hb dX2_inodeAt_45 ?_
        exact gw_reti F hW hf dX2_inodeAt_46
  · replace hf := (if_neg c1).symm.trans hf
    refine lv_iconst (v := (-1 : Int32)) hx hb dX2_inodeAt_8 (by decide) ?_
    exact gw_reti F hW hf dX2_inodeAt_9
set_option maxHeartbeats 4000000 in
set_option maxRecDepth 100000 in
theorem mXX2_inodeAt_3 {l : Launch} {K : KX} {σ : XS} {x1 : Int32} {o : (Int32 × XS)} (hf : fXX2_inodeAt_3 (kn K) x1 σ = some o) : gw_Mi l (kD K) vwCl (tyX K) (wX K) yX2_inodeAt wsX2_inodeAt rXX2_inodeAt_3 [.ref (ka K 3), .int x1] σ o := by
  intro sz
  refine gw_body (cc := cX2_inodeAt) (maxL := 3) (yret := some .int) (by decide +kernel) rfl ?_ (Nat.le_of_ble_eq_true rfl)
  intro p e s m below meth c F hsz hW ls hl
  exact wXX2_inodeAt_3_0 F x1 σ o hf s.heap [] ls hl hW
