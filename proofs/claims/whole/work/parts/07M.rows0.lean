abbrev rMX12_thrown_0 : Room := { frames := 0, cells := 0, slots := 0, locals := 0 }
set_option maxHeartbeats 4000000 in
set_option maxRecDepth 100000 in
theorem wMX12_thrown_0_0 {p : Program} {l : Launch} {e : Env} {s : State} {m : MethodId} {args : Array Value} {below : List Frame} {meth : Method} {c : Code} {A : Nat → Prop} {K : KX} (F : fx_ p s m args meth c cX12_thrown 1 (some .int) RX12 wsX12_thrown) (σ : XS) (o : (Int32 × XS)) (hf : fMX12_thrown_0_0 (kn K) σ = some o) (H : Heap) (locs : List Loc) (ls : Array Slot) (hl : lv_has ls 1 [(0, .ref (ka K 0))]) (hW : gw_ (kD K) vwCl (tyM K) (wM K) A s σ H locs) : W p l e rMX12_thrown_0 s m args below meth c H locs 0 0 (MQ below (gw_Qi (kD K) vwCl (tyM K) (wM K) A o) args s rMX12_thrown_0.cells rMX12_thrown_0.slots A) (F0 m 0 ls []) := by
  have hx := F.1
  have hb := F.2.1
  have hml := F.2.2.2.1
  have hown := F.2.2.2.2.1
  have hts := F.2.2.2.2.2.1
  have hG : ∀ x ∈ gT, x.before args s = true := fun x h => hts x (List.mem_cons_of_mem _ h)
  unfold fMX12_thrown_0_0 at hf
  refine lv_aload_n hx hb dX12_thrown_0 rfl (lv_at hl 0 rfl) ?_
  refine gw_get (v := .int (σ.1 0)) F inc_X12 hW 0 10 0 (aM_0 K σ) rfl (by decide) (hG _ q_6_112) (fun _ h9 => h9) rfl dX12_thrown_1 ?_
  exact gw_reti F hW hf dX12_thrown_4
set_option maxHeartbeats 4000000 in
set_option maxRecDepth 100000 in
theorem mMX12_thrown_0 {l : Launch} {K : KX} {σ : XS} {o : (Int32 × XS)} (hf : fMX12_thrown_0 (kn K) σ = some o) : gw_Mi l (kD K) vwCl (tyM K) (wM K) yX12_thrown wsX12_thrown rMX12_thrown_0 [.ref (ka K 0)] σ o := by
  intro sz
  refine gw_body (cc := cX12_thrown) (maxL := 1) (yret := some .int) (by decide +kernel) rfl ?_ (Nat.le_of_ble_eq_true rfl)
  intro p e s m below meth c F hsz hW ls hl
  exact wMX12_thrown_0_0 F σ o hf s.heap [] ls hl hW
abbrev rMX12_fails_0 : Room := { frames := 0, cells := 0, slots := 0, locals := 0 }
set_option maxHeartbeats 4000000 in
set_option maxRecDepth 100000 in
theorem wMX12_fails_0_16 {p : Program} {l : Launch} {e : Env} {s : State} {m : MethodId} {args : Array Value} {below : List Frame} {meth : Method} {c : Code} {A : Nat → Prop} {K : KX} (F : fx_ p s m args meth c cX12_fails 3 (some .boolean) RX12 wsX12_fails) (σ : XS) (o : (Int32 × XS)) (hf : fMX12_fails_0_16 (kn K) σ = some o) (H : Heap) (locs : List Loc) (ls : Array Slot) (hl : lv_has ls 3 [(0, .ref (ka K 0))]) (hW : gw_ (kD K) vwCl (tyM K) (wM K) A s σ H locs) : W p l e rMX12_fails_0 s m args below meth c H locs 0 0 (MQ below (va_Qi (fun r u => (r = o.1 ∧ u = o.2) ∧ (o.1 = 0 ∨ o.1 = 1)) (gw_B (kD K) vwCl (tyM K) (wM K) A) A) args s rMX12_fails_0.cells rMX12_fails_0.slots A) (F0 m 16 ls []) := by
  have hx := F.1
  have hb := F.2.1
  have hml := F.2.2.2.1
  have hown := F.2.2.2.2.1
  have hts := F.2.2.2.2.2.1
  have hG : ∀ x ∈ gT, x.before args s = true := fun x h => hts x (List.mem_cons_of_mem _ h)
  unfold fMX12_fails_0_16 at hf
  refine lv_aload_n hx hb dX12_fails_16 rfl (lv_at hl 0 rfl) ?_
  refine gw_get (v := .int (σ.1 0)) F inc_X12 hW 0 10 0 (aM_0 K σ) rfl (by decide) (hG _ q_6_112) (fun _ h9 => h9) rfl dX12_fails_17 ?_
  refine lv_if_eq (tgt := 27) hx hb dX12_fails_20 (by decide) (fun c2 => ?_) (fun c2 => ?_)
  · replace hf := (if_pos c2).symm.trans hf
    refine lv_iconst (v := (0 : Int32)) hx hb dX12_fails_27 (by decide) ?_
    exact gw_retz F hW hf (Or.inl rfl) dX12_fails_28
  · replace hf := (if_neg c2).symm.trans hf
    refine lv_iconst (v := (1 : Int32)) hx hb dX12_fails_23 (by decide) ?_
    refine lv_goto (tgt := 28) hx hb dX12_fails_24 (by decide) ?_
    exact gw_retz F hW hf (Or.inr rfl) dX12_fails_28
set_option maxHeartbeats 4000000 in
set_option maxRecDepth 100000 in
theorem wMX12_fails_0_0 {p : Program} {l : Launch} {e : Env} {s : State} {m : MethodId} {args : Array Value} {below : List Frame} {meth : Method} {c : Code} {A : Nat → Prop} {K : KX} (F : fx_ p s m args meth c cX12_fails 3 (some .boolean) RX12 wsX12_fails) (x1 : Int32) (x2 : Int32) (σ : XS) (o : (Int32 × XS)) (hf : fMX12_fails_0_0 (kn K) x1 x2 σ = some o) (H : Heap) (locs : List Loc) (ls : Array Slot) (hl : lv_has ls 3 [(0, .ref (ka K 0)), (1, .int x1), (2, .int x2)]) (hW : gw_ (kD K) vwCl (tyM K) (wM K) A s σ H locs) : W p l e rMX12_fails_0 s m args below meth c H locs 0 0 (MQ below (va_Qi (fun r u => (r = o.1 ∧ u = o.2) ∧ (o.1 = 0 ∨ o.1 = 1)) (gw_B (kD K) vwCl (tyM K) (wM K) A) A) args s rMX12_fails_0.cells rMX12_fails_0.slots A) (F0 m 0 ls []) := by
  have hx := F.1
  have hb := F.2.1
  have hml := F.2.2.2.1
  have hown := F.2.2.2.2.1
  have hts := F.2.2.2.2.2.1
  have hG : ∀ x ∈ gT, x.before args s = true := fun x h => hts x (List.mem_cons_of_mem _ h)
  unfold fMX12_fails_0_0 at hf
  refine lv_iload_n hx hb dX12_fails_0 rfl (lv_at hl 1 rfl) ?_
  refine lv_if_eq (tgt := 16) hx hb dX12_fails_1 (by decide) (fun c1 => ?_) (fun c1 => ?_)
  · replace hf := (if_pos c1).symm.trans hf
    exact wMX12_fails_0_16 F _ _ hf _ _ _ (lv_sub hl [0] rfl) hW
  · replace hf := (if_neg c1).symm.trans hf
    refine lv_aload_n hx hb dX12_fails_4 rfl (lv_at hl 0 rfl) ?_
    refine gw_get (v := .int (σ.1 0)) F inc_X12 hW 0 10 0 (aM_0 K σ) rfl (by decide) (hG _ q_6_112) (fun _ h9 => h9) rfl dX12_fails_5 ?_
    refine lv_if_ne (tgt := 16) hx hb dX12_fails_8 (by decide) (fun c3 => ?_) (fun c3 => ?_)
    · replace hf := (if_neg c3).symm.trans hf
      exact wMX12_fails_0_16 F _ _ hf _ _ _ (lv_sub hl [0] rfl) hW
    · replace hf := (if_pos c3).symm.trans hf
      refine lv_aload_n hx hb dX12_fails_11 rfl (lv_at hl 0 rfl) ?_
      refine lv_iload_n hx hb dX12_fails_12 rfl (lv_at hl 2 rfl) ?_
      refine gw_put (σ' := (stS σ 0 x2)) (ty := .int) F inc_X12 tyX12 tyX12_ok nmX12 hW 0 10 0 (aM_0 K σ) rfl (by decide) (hG _ q_6_112) (fun _ h9 => h9) rfl (by decide +kernel) rfl rfl (Nat.le_of_ble_eq_true rfl) dX12_fails_13 (sSM_0 _ _ _) (fun H locs hW => ?_)
      exact wMX12_fails_0_16 F _ _ hf _ _ _ (lv_sub hl [0] rfl) hW
set_option maxHeartbeats 4000000 in
set_option maxRecDepth 100000 in
theorem mMX12_fails_0 {l : Launch} {K : KX} {σ : XS} {x1 : Int32} {x2 : Int32} {o : (Int32 × XS)} (hf : fMX12_fails_0 (kn K) x1 x2 σ = some o) : gw_Mz l (kD K) vwCl (tyM K) (wM K) yX12_fails wsX12_fails rMX12_fails_0 [.ref (ka K 0), .int x1, .int x2] σ o := by
  intro sz
  refine gw_body (cc := cX12_fails) (maxL := 3) (yret := some .boolean) (by decide +kernel) rfl ?_ (Nat.le_of_ble_eq_true rfl)
  intro p e s m below meth c F hsz hW ls hl
  exact wMX12_fails_0_0 F x1 x2 σ o hf s.heap [] ls hl hW
abbrev rMX12_parts : Room := { frames := 0, cells := 0, slots := 0, locals := 0 }
set_option maxHeartbeats 4000000 in
set_option maxRecDepth 100000 in
theorem wMX12_parts_0 {p : Program} {l : Launch} {e : Env} {s : State} {m : MethodId} {args : Array Value} {below : List Frame} {meth : Method} {c : Code} {A : Nat → Prop} {K : KX} (F : fx_ p s m args meth c cX12_parts 2 (some .int) RX12 wsX12_parts) (x0 : Int32) (x1 : Int32) (σ : XS) (o : (Int32 × XS)) (hf : fMX12_parts_0 (kn K) x0 x1 σ = some o) (H : Heap) (locs : List Loc) (ls : Array Slot) (hl : lv_has ls 2 [(0, .int x0), (1, .int x1)]) (hW : gw_ (kD K) vwCl (tyM K) (wM K) A s σ H locs) : W p l e rMX12_parts s m args below meth c H locs 0 0 (MQ below (gw_Qi (kD K) vwCl (tyM K) (wM K) A o) args s rMX12_parts.cells rMX12_parts.slots A) (F0 m 0 ls []) := by
  have hx := F.1
  have hb := F.2.1
  have hml := F.2.2.2.1
  have hown := F.2.2.2.2.1
  have hts := F.2.2.2.2.2.1
  have hG : ∀ x ∈ gT, x.before args s = true := fun x h => hts x (List.mem_cons_of_mem _ h)
  unfold fMX12_parts_0 at hf
  refine lv_iload_n hx hb dX12_parts_0 rfl (lv_at hl 0 rfl) ?_
  refine lv_iload_n hx hb dX12_parts_1 rfl (lv_at hl 1 rfl) ?_
  refine lv_iadd hx hb dX12_parts_2 ?_
  refine lv_iconst (v := (1 : Int32)) hx hb dX12_parts_3 (by decide) ?_
  refine lv_isub hx hb dX12_parts_4 ?_
  refine lv_iload_n hx hb dX12_parts_5 rfl (lv_at hl 1 rfl) ?_
  rcases Decidable.em (x1 = 0) with c1 | c1
  · replace hf := (if_pos c1).symm.trans hf
    exact absurd hf (by simp)
  · replace hf := (if_neg c1).symm.trans hf
    refine lv_idiv hx hb dX12_parts_6 c1 ?_
    exact gw_reti F hW hf dX12_parts_7
set_option maxHeartbeats 4000000 in
set_option maxRecDepth 100000 in
theorem mMX12_parts {l : Launch} {K : KX} {σ : XS} {x0 : Int32} {x1 : Int32} {o : (Int32 × XS)} (hf : fMX12_parts (kn K) x0 x1 σ = some o) : gw_Mi l (kD K) vwCl (tyM K) (wM K) yX12_parts wsX12_parts rMX12_parts [.int x0, .int x1] σ o := by
  intro sz
  refine gw_body (cc := cX12_parts) (maxL := 2) (yret := some .int) (by decide +kernel) rfl ?_ (Nat.le_of_ble_eq_true rfl)
  intro p e s m below meth c F hsz hW ls hl
  exact wMX12_parts_0 F x0 x1 σ o hf s.heap [] ls hl hW
abbrev rMX12_feed_0 : Room := { frames := 0, cells := 0, slots := 0, locals := 0 }
def PMX12_feed_0_8 (p : Program) (l : Launch) (e : Env) (s : State) (m : MethodId) (args : Array Value) (below : List Frame) (meth : Method) (c : Code) (A : Nat → Prop) (K : KX) (t : (Int32 × Int32 × Int32 × Int32 × Int32 × Int32 × XS)) (o : XS) : Prop := ∀ (H : Heap) (locs : List Loc) (ls : Array Slot), lv_has ls 8 [(0, .ref (ka K 0)), (1, .int t.1), (2, .int t.2.1), (3, .int t.2.2.1), (4, .int t.2.2.2.1), (5, .int t.2.2.2.2.1), (6, .int t.2.2.2.2.2.1)] → gw_ (kD K) vwCl (tyM K) (wM K) A s t.2.2.2.2.2.2 H locs → W p l e rMX12_feed_0 s m args below meth c H locs 0 0 (MQ below (gw_Qv (kD K) vwCl (tyM K) (wM K) A o) args s rMX12_feed_0.cells rMX12_feed_0.slots A) (F0 m 8 ls [])
set_option maxHeartbeats 4000000 in
set_option maxRecDepth 100000 in
theorem wMX12_feed_0_61 {p : Program} {l : Launch} {e : Env} {s : State} {m : MethodId} {args : Array Value} {below : List Frame} {meth : Method} {c : Code} {A : Nat → Prop} {K : KX} (F : fx_ p s m args meth c cX12_feed 8 none RX12 wsX12_feed) {k8 : (Int32 × Int32 × Int32 × Int32 × Int32 × Int32 × XS) → Option XS} (hk8 : ∀ t o, k8 t = some o → PMX12_feed_0_8 p l e s m args below meth c A K t o) (x1 : Int32) (x2 : Int32) (x3 : Int32) (x4 : Int32) (x5 : Int32) (x6 : Int32) (y0 : Int32) (σ : XS) (o : XS) (hf : fMX12_feed_0_61 (kn K) k8 x1 x2 x3 x4 x5 x6 y0 σ = some o) (H : Heap) (locs : List Loc) (ls : Array Slot) (hl : lv_has ls 8 [(0, .ref (ka K 0)), (1, .int x1), (2, .int x2), (3, .int x3), (4, .int x4), (5, .int x5), (6, .int x6)]) (hW : gw_ (kD K) vwCl (tyM K) (wM K) A s σ H locs) : W p l e rMX12_feed_0 s m args below meth c H locs 0 0 (MQ below (gw_Qv (kD K) vwCl (tyM K) (wM K) A o) args s rMX12_feed_0.cells rMX12_feed_0.slots A) (F0 m 61 ls [.int y0]) := by
  have hx := F.1
  have hb := F.2.1
  have hml := F.2.2.2.1
  have hown := F.2.2.2.2.1
  have hts := F.2.2.2.2.2.1
  have hG : ∀ x ∈ gT, x.before args s = true := fun x h => hts x (List.mem_cons_of_mem _ h)
  unfold fMX12_feed_0_61 at hf
  refine lv_istore (lv' := [(7, .int y0), (0, .ref (ka K 0)), (1, .int x1), (2, .int x2), (3, .int x3), (4, .int x4), (5, .int x5), (6, .int x6)]) hx hb dX12_feed_61 hl (by decide) rfl (fun ls hl => ?_)
  refine lv_aload_n hx hb dX12_feed_63 rfl (lv_at hl 1 rfl) ?_
  refine gw_get (v := .ref (ka K 4)) F inc_X12 hW 0 10 5 (aM_0 K σ) rfl (by decide) (hG _ q_6_117) (fun _ h9 => h9) rfl dX12_feed_64 ?_
  refine lv_iload hx hb dX12_feed_67 (lv_at hl 7 rfl) ?_
  refine lv_iload hx hb dX12_feed_69 (lv_at hl 0 rfl) ?_
  refine lv_bipush (v := (24 : Int32)) hx hb dX12_feed_71 (by decide) ?_
  refine lv_bipush (v := (8 : Int32)) hx hb dX12_feed_73 (by decide) ?_
  refine lv_iload hx hb dX12_feed_75 (lv_at hl 7 rfl) ?_
  refine lv_iconst (v := (4 : Int32)) hx hb dX12_feed_77 (by decide) ?_
  refine lv_irem hx hb dX12_feed_78 (by decide) ?_
  refine lv_imul hx hb dX12_feed_79 ?_
  refine lv_isub hx hb dX12_feed_80 ?_
  refine lv_ishr hx hb dX12_feed_81 ?_
  refine lv_i2b (v := (y0 >>> (((24 : Int32) - ((8 : Int32) * (x6 - x6 / (4 : Int32) * (4 : Int32)))) &&& 31)).toInt8.toInt32) hx hb dX12_feed_82 rfl ?_
  rcases Decidable.em (x6 < 0 ∨ 20 ≤ x6.toNatClampNeg) with c6 | c6
  · replace hf := (if_pos c6).symm.trans hf
    exact absurd hf (by simp)
  · replace hf := (if_neg c6).symm.trans hf
    refine gw_bast (σ' := (stA σ 3 x6.toNatClampNeg (vp_nar .byte ((y0 >>> (((24 : Int32) - ((8 : Int32) * (x6 - x6 / (4 : Int32) * (4 : Int32)))) &&& 31)).toInt8.toInt32)))) F hW 4 3 (aM_4 K σ) rfl c6 dX12_feed_83 (sAM_3 _ _ _) (fun H locs hW => ?_)
    refine lv_iinc (v := (x6 + (1 : Int32))) (lv' := [(6, .int (x6 + (1 : Int32))), (7, .int y0), (0, .ref (ka K 0)), (1, .int x1), (2, .int x2), (3, .int x3), (4, .int x4), (5, .int x5)]) hx hb dX12_feed_84 hl (k := 7) rfl rfl (by decide) rfl (fun ls hl => ?_)
    refine lv_goto (tgt := 8) hx hb dX12_feed_87 (by decide) ?_
    exact hk8 _ _ hf _ _ _ (lv_sub hl [2, 3, 4, 5, 6, 7, 0] rfl) hW
set_option maxHeartbeats 4000000 in
set_option maxRecDepth 100000 in
theorem wMX12_feed_0_8 {p : Program} {l : Launch} {e : Env} {s : State} {m : MethodId} {args : Array Value} {below : List Frame} {meth : Method} {c : Code} {A : Nat → Prop} {K : KX} (F : fx_ p s m args meth c cX12_feed 8 none RX12 wsX12_feed) {k8 : (Int32 × Int32 × Int32 × Int32 × Int32 × Int32 × XS) → Option XS} (hk8 : ∀ t o, k8 t = some o → PMX12_feed_0_8 p l e s m args below meth c A K t o) (x1 : Int32) (x2 : Int32) (x3 : Int32) (x4 : Int32) (x5 : Int32) (x6 : Int32) (σ : XS) (o : XS) (hf : fMX12_feed_0_8 (kn K) k8 x1 x2 x3 x4 x5 x6 σ = some o) (H : Heap) (locs : List Loc) (ls : Array Slot) (hl : lv_has ls 8 [(0, .ref (ka K 0)), (1, .int x1), (2, .int x2), (3, .int x3), (4, .int x4), (5, .int x5), (6, .int x6)]) (hW : gw_ (kD K) vwCl (tyM K) (wM K) A s σ H locs) : W p l e rMX12_feed_0 s m args below meth c H locs 0 0 (MQ below (gw_Qv (kD K) vwCl (tyM K) (wM K) A o) args s rMX12_feed_0.cells rMX12_feed_0.slots A) (F0 m 8 ls []) := by
  have hx := F.1
  have hb := F.2.1
  have hml := F.2.2.2.1
  have hown := F.2.2.2.2.1
  have hts := F.2.2.2.2.2.1
  have hG : ∀ x ∈ gT, x.before args s = true := fun x h => hts x (List.mem_cons_of_mem _ h)
  unfold fMX12_feed_0_8 at hf
  refine lv_iload hx hb dX12_feed_8 (lv_at hl 6 rfl) ?_
  refine lv_bipush (v := (20 : Int32)) hx hb dX12_feed_10 (by decide) ?_
  refine lv_icmp_ge (tgt := 90) hx hb dX12_feed_12 (by decide) (fun c1 => ?_) (fun c1 => ?_)
  · replace hf := (if_pos c1).symm.trans hf
    exact gw_retv F hW hf dX12_feed_90
  · replace hf := (if_neg c1).symm.trans hf
    refine lv_iload hx hb dX12_feed_15 (lv_at hl 6 rfl) ?_
    refine lv_iconst (v := (4 : Int32)) hx hb dX12_feed_17 (by decide) ?_
    refine lv_icmp_ge (tgt := 25) hx hb dX12_feed_18 (by decide) (fun c2 => ?_) (fun c2 => ?_)
    · replace hf := (if_pos c2).symm.trans hf
      refine lv_iload hx hb dX12_feed_25 (lv_at hl 6 rfl) ?_
      refine lv_bipush (v := (8 : Int32)) hx hb dX12_feed_27 (by decide) ?_
      refine lv_icmp_ge (tgt := 36) hx hb dX12_feed_29 (by decide) (fun c3 => ?_) (fun c3 => ?_)
      · replace hf := (if_pos c3).symm.trans hf
        refine lv_iload hx hb dX12_feed_36 (lv_at hl 6 rfl) ?_
        refine lv_bipush (v := (12 : Int32)) hx hb dX12_feed_38 (by decide) ?_
        refine lv_icmp_ge (tgt := 47) hx hb dX12_feed_40 (by decide) (fun c4 => ?_) (fun c4 => ?_)
        · replace hf := (if_pos c4).symm.trans hf
          refine lv_iload hx hb dX12_feed_47 (lv_at hl 6 rfl) ?_
          refine lv_bipush (v := (16 : Int32)) hx hb dX12_feed_49 (by decide) ?_
          refine lv_icmp_ge (tgt := 59) hx hb dX12_feed_51 (by decide) (fun c5 => ?_) (fun c5 => ?_)
          · replace hf := (if_pos c5).symm.trans hf
            refine lv_iload hx hb dX12_feed_59 (lv_at hl 5 rfl) ?_
            exact wMX12_feed_0_61 F hk8 x1 x2 x3 x4 x5 x6 x5 _ _ hf _ _ _ (lv_sub hl [0, 1, 2, 3, 4, 5, 6] rfl) hW
          · replace hf := (if_neg c5).symm.trans hf
            refine lv_iload hx hb dX12_feed_54 (lv_at hl 4 rfl) ?_
            refine lv_goto (tgt := 61) hx hb dX12_feed_56 (by decide) ?_
            exact wMX12_feed_0_61 F hk8 x1 x2 x3 x4 x5 x6 x4 _ _ hf _ _ _ (lv_sub hl [0, 1, 2, 3, 4, 5, 6] rfl) hW
        · replace hf := (if_neg c4).symm.trans hf
          refine lv_iload_n hx hb dX12_feed_43 rfl (lv_at hl 3 rfl) ?_
          refine lv_goto (tgt := 61) hx hb dX12_feed_44 (by decide) ?_
          exact wMX12_feed_0_61 F hk8 x1 x2 x3 x4 x5 x6 x3 _ _ hf _ _ _ (lv_sub hl [0, 1, 2, 3, 4, 5, 6] rfl) hW
      · replace hf := (if_neg c3).symm.trans hf
        refine lv_iload_n hx hb dX12_feed_32 rfl (lv_at hl 2 rfl) ?_
        refine lv_goto (tgt := 61) hx hb dX12_feed_33 (by decide) ?_
        exact wMX12_feed_0_61 F hk8 x1 x2 x3 x4 x5 x6 x2 _ _ hf _ _ _ (lv_sub hl [0, 1, 2, 3, 4, 5, 6] rfl) hW
    · replace hf := (if_neg c2).symm.trans hf
      refine lv_iload_n hx hb dX12_feed_21 rfl (lv_at hl 1 rfl) ?_
      refine lv_goto (tgt := 61) hx hb dX12_feed_22 (by decide) ?_
      exact wMX12_feed_0_61 F hk8 x1 x2 x3 x4 x5 x6 x1 _ _ hf _ _ _ (lv_sub hl [0, 1, 2, 3, 4, 5, 6] rfl) hW
set_option maxHeartbeats 4000000 in
set_option maxRecDepth 100000 in
theorem wMX12_feed_0_0 {p : Program} {l : Launch} {e : Env} {s : State} {m : MethodId} {args : Array Value} {below : List Frame} {meth : Method} {c : Code} {A : Nat → Prop} {K : KX} (F : fx_ p s m args meth c cX12_feed 8 none RX12 wsX12_feed) (x1 : Int32) (x2 : Int32) (x3 : Int32) (x4 : Int32) (x5 : Int32) (σ : XS) (o : XS) (hf : fMX12_feed_0_0 (kn K) x1 x2 x3 x4 x5 σ = some o) (H : Heap) (locs : List Loc) (ls : Array Slot) (hl : lv_has ls 8 [(0, .ref (ka K 0)), (1, .int x1), (2, .int x2), (3, .int x3), (4, .int x4), (5, .int x5)]) (hW : gw_ (kD K) vwCl (tyM K) (wM K) A s σ H locs) : W p l e rMX12_feed_0 s m args below meth c H locs 0 0 (MQ below (gw_Qv (kD K) vwCl (tyM K) (wM K) A o) args s rMX12_feed_0.cells rMX12_feed_0.slots A) (F0 m 0 ls []) := by
  have hx := F.1
  have hb := F.2.1
  have hml := F.2.2.2.1
  have hown := F.2.2.2.2.1
  have hts := F.2.2.2.2.2.1
  have hG : ∀ x ∈ gT, x.before args s = true := fun x h => hts x (List.mem_cons_of_mem _ h)
  unfold fMX12_feed_0_0 at hf
  refine lv_aload_n hx hb dX12_feed_0 rfl (lv_at hl 0 rfl) ?_
  refine lv_iconst (v := (0 : Int32)) hx hb dX12_feed_1 (by decide) ?_
  refine gw_put (σ' := (stS σ 0 (0 : Int32))) (ty := .int) F inc_X12 tyX12 tyX12_ok nmX12 hW 0 10 0 (aM_0 K σ) rfl (by decide) (hG _ q_6_112) (fun _ h9 => h9) rfl (by decide +kernel) rfl rfl (Nat.le_of_ble_eq_true rfl) dX12_feed_2 (sSM_0 _ _ _) (fun H locs hW => ?_)
  refine lv_iconst (v := (0 : Int32)) hx hb dX12_feed_5 (by decide) ?_
  refine lv_istore (lv' := [(6, .int (0 : Int32)), (0, .ref (ka K 0)), (1, .int x1), (2, .int x2), (3, .int x3), (4, .int x4), (5, .int x5)]) hx hb dX12_feed_6 hl (by decide) rfl (fun ls hl => ?_)
  exact lfix_ind (P := PMX12_feed_0_8 p l e s m args below meth c A K) (fun k8 hk8 t o hf => wMX12_feed_0_8 F hk8 t.1 t.2.1 t.2.2.1 t.2.2.2.1 t.2.2.2.2.1 t.2.2.2.2.2.1 t.2.2.2.2.2.2 o hf) FU _ _ hf _ _ _ (lv_sub hl [1, 2, 3, 4, 5, 6, 0] rfl) hW
set_option maxHeartbeats 4000000 in
set_option maxRecDepth 100000 in
theorem mMX12_feed_0 {l : Launch} {K : KX} {σ : XS} {x1 : Int32} {x2 : Int32} {x3 : Int32} {x4 : Int32} {x5 : Int32} {o : XS} (hf : fMX12_feed_0 (kn K) x1 x2 x3 x4 x5 σ = some o) : gw_Mv l (kD K) vwCl (tyM K) (wM K) yX12_feed wsX12_feed rMX12_feed_0 [.ref (ka K 0), .int x1, .int x2, .int x3, .int x4, .int x5] σ o := by
  intro sz
  refine gw_body (cc := cX12_feed) (maxL := 8) (yret := none) (by decide +kernel) rfl ?_ (Nat.le_of_ble_eq_true rfl)
  intro p e s m below meth c F hsz hW ls hl
  exact wMX12_feed_0_0 F x1 x2 x3 x4 x5 σ o hf s.heap [] ls hl hW
abbrev rMX12_end_0 : Room := { frames := 0, cells := 0, slots := 0, locals := 0 }
def PMX12_end_0_61 (p : Program) (l : Launch) (e : Env) (s : State) (m : MethodId) (args : Array Value) (below : List Frame) (meth : Method) (c : Code) (A : Nat → Prop) (K : KX) (t : (Int32 × Int32 × XS)) (o : (Int32 × XS)) : Prop := ∀ (H : Heap) (locs : List Loc) (ls : Array Slot), lv_has ls 3 [(0, .ref (ka K 0)), (1, .int t.1), (2, .int t.2.1)] → gw_ (kD K) vwCl (tyM K) (wM K) A s t.2.2 H locs → W p l e rMX12_end_0 s m args below meth c H locs 0 0 (MQ below (gw_Qi (kD K) vwCl (tyM K) (wM K) A o) args s rMX12_end_0.cells rMX12_end_0.slots A) (F0 m 61 ls [])
def PMX12_end_0_31 (p : Program) (l : Launch) (e : Env) (s : State) (m : MethodId) (args : Array Value) (below : List Frame) (meth : Method) (c : Code) (A : Nat → Prop) (K : KX) (t : (Int32 × Int32 × XS)) (o : (Int32 × XS)) : Prop := ∀ (H : Heap) (locs : List Loc) (ls : Array Slot), lv_has ls 3 [(0, .ref (ka K 0)), (1, .int t.1), (2, .int t.2.1)] → gw_ (kD K) vwCl (tyM K) (wM K) A s t.2.2 H locs → W p l e rMX12_end_0 s m args below meth c H locs 0 0 (MQ below (gw_Qi (kD K) vwCl (tyM K) (wM K) A o) args s rMX12_end_0.cells rMX12_end_0.slots A) (F0 m 31 ls [])
set_option maxHeartbeats 4000000 in
set_option maxRecDepth 100000 in
theorem wMX12_end_0_61 {p : Program} {l : Launch} {e : Env} {s : State} {m : MethodId} {args : Array Value} {below : List Frame} {meth : Method} {c : Code} {A : Nat → Prop} {K : KX} (F : fx_ p s m args meth c cX12_end 3 (some .int) RX12 wsX12_end) {k61 : (Int32 × Int32 × XS) → Option (Int32 × XS)} (hk61 : ∀ t o, k61 t = some o → PMX12_end_0_61 p l e s m args below meth c A K t o) (x1 : Int32) (x2 : Int32) (σ : XS) (o : (Int32 × XS)) (hf : fMX12_end_0_61 (kn K) k61 x1 x2 σ = some o) (H : Heap) (locs : List Loc) (ls : Array Slot) (hl : lv_has ls 3 [(0, .ref (ka K 0)), (1, .int x1), (2, .int x2)]) (hW : gw_ (kD K) vwCl (tyM K) (wM K) A s σ H locs) : W p l e rMX12_end_0 s m args below meth c H locs 0 0 (MQ below (gw_Qi (kD K) vwCl (tyM K) (wM K) A o) args s rMX12_end_0.cells rMX12_end_0.slots A) (F0 m 61 ls []) := by
  have hx := F.1
  have hb := F.2.1
  have hml := F.2.2.2.1
  have hown := F.2.2.2.2.1
  have hts := F.2.2.2.2.2.1
  have hG : ∀ x ∈ gT, x.before args s = true := fun x h => hts x (List.mem_cons_of_mem _ h)
  unfold fMX12_end_0_61 at hf
  refine lv_iload_n hx hb dX12_end_61 rfl (lv_at hl 2 rfl) ?_
  refine lv_bipush (v := (20 : Int32)) hx hb dX12_end_62 (by decide) ?_
  refine lv_icmp_ge (tgt := 80) hx hb dX12_end_64 (by decide) (fun c5 => ?_) (fun c5 => ?_)
  · replace hf := (if_pos c5).symm.trans hf
    refine lv_aload_n hx hb dX12_end_80 rfl (lv_at hl 0 rfl) ?_
    refine lv_dup hx hb dX12_end_81 rfl ?_
    refine gw_get (v := .int (σ.1 1)) F inc_X12 hW 0 10 6 (aM_0 K σ) rfl (by decide) (hG _ q_6_118) (fun _ h9 => h9) rfl dX12_end_82 ?_
    refine lv_iload_n hx hb dX12_end_85 rfl (lv_at hl 1 rfl) ?_
    refine lv_iadd hx hb dX12_end_86 ?_
    refine gw_put (σ' := (stS σ 1 ((σ.1 1) + x1))) (ty := .int) F inc_X12 tyX12 tyX12_ok nmX12 hW 0 10 6 (aM_0 K σ) rfl (by decide) (hG _ q_6_118) (fun _ h9 => h9) rfl (by decide +kernel) rfl rfl (Nat.le_of_ble_eq_true rfl) dX12_end_87 (sSM_1 _ _ _) (fun H locs hW => ?_)
    refine lv_aload_n hx hb dX12_end_90 rfl (lv_at hl 0 rfl) ?_
    refine gw_get (v := .int ((σ.1 1) + x1)) F inc_X12 hW 0 10 6 (aM_0 K (stS σ 1 ((σ.1 1) + x1))) rfl (by decide) (hG _ q_6_118) (fun _ h9 => h9) rfl dX12_end_91 ?_
    exact gw_reti F hW hf dX12_end_94
  · replace hf := (if_neg c5).symm.trans hf
    refine lv_aload_n hx hb dX12_end_67 rfl (lv_at hl 0 rfl) ?_
    refine gw_get (v := .ref (ka K 4)) F inc_X12 hW 0 10 5 (aM_0 K σ) rfl (by decide) (hG _ q_6_117) (fun _ h9 => h9) rfl dX12_end_68 ?_
    refine lv_iload_n hx hb dX12_end_71 rfl (lv_at hl 2 rfl) ?_
    refine lv_iconst (v := (0 : Int32)) hx hb dX12_end_72 (by decide) ?_
    rcases Decidable.em (x2 < 0 ∨ 20 ≤ x2.toNatClampNeg) with c6 | c6
    · replace hf := (if_pos c6).symm.trans hf
      exact absurd hf (by simp)
    · replace hf := (if_neg c6).symm.trans hf
      refine gw_bast (σ' := (stA σ 3 x2.toNatClampNeg (vp_nar .byte (0 : Int32)))) F hW 4 3 (aM_4 K σ) rfl c6 dX12_end_73 (sAM_3 _ _ _) (fun H locs hW => ?_)
      refine lv_iinc (v := (x2 + (1 : Int32))) (lv' := [(2, .int (x2 + (1 : Int32))), (0, .ref (ka K 0)), (1, .int x1)]) hx hb dX12_end_74 hl (k := 2) rfl rfl (by decide) rfl (fun ls hl => ?_)
      refine lv_goto (tgt := 61) hx hb dX12_end_77 (by decide) ?_
      exact hk61 _ _ hf _ _ _ (lv_sub hl [1, 2, 0] rfl) hW
set_option maxHeartbeats 4000000 in
set_option maxRecDepth 100000 in
theorem wMX12_end_0_31 {p : Program} {l : Launch} {e : Env} {s : State} {m : MethodId} {args : Array Value} {below : List Frame} {meth : Method} {c : Code} {A : Nat → Prop} {K : KX} (F : fx_ p s m args meth c cX12_end 3 (some .int) RX12 wsX12_end) {k31 : (Int32 × Int32 × XS) → Option (Int32 × XS)} (hk31 : ∀ t o, k31 t = some o → PMX12_end_0_31 p l e s m args below meth c A K t o) (x1 : Int32) (x2 : Int32) (σ : XS) (o : (Int32 × XS)) (hf : fMX12_end_0_31 (kn K) k31 x1 x2 σ = some o) (H : Heap) (locs : List Loc) (ls : Array Slot) (hl : lv_has ls 3 [(0, .ref (ka K 0)), (1, .int x1), (2, .int x2)]) (hW : gw_ (kD K) vwCl (tyM K) (wM K) A s σ H locs) : W p l e rMX12_end_0 s m args below meth c H locs 0 0 (MQ below (gw_Qi (kD K) vwCl (tyM K) (wM K) A o) args s rMX12_end_0.cells rMX12_end_0.slots A) (F0 m 31 ls []) := by
  have hx := F.1
  have hb := F.2.1
  have hml := F.2.2.2.1
  have hown := F.2.2.2.2.1
  have hts := F.2.2.2.2.2.1
  have hG : ∀ x ∈ gT, x.before args s = true := fun x h => hts x (List.mem_cons_of_mem _ h)
  unfold fMX12_end_0_31 at hf
  refine lv_iload_n hx hb dX12_end_31 rfl (lv_at hl 2 rfl) ?_
  refine lv_iload_n hx hb dX12_end_32 rfl (lv_at hl 1 rfl) ?_
  refine lv_icmp_ge (tgt := 59) hx hb dX12_end_33 (by decide) (fun c4 => ?_) (fun c4 => ?_)
  · replace hf := (if_pos c4).symm.trans hf
    refine lv_iconst (v := (0 : Int32)) hx hb dX12_end_59 (by decide) ?_
    refine lv_istore_n (lv' := [(2, .int (0 : Int32)), (0, .ref (ka K 0)), (1, .int x1)]) hx hb dX12_end_60 rfl hl (by decide) rfl (fun ls hl => ?_)
    exact lfix_ind (P := PMX12_end_0_61 p l e s m args below meth c A K) (fun k61 hk61 t o hf => wMX12_end_0_61 F hk61 t.1 t.2.1 t.2.2 o hf) FU _ _ hf _ _ _ (lv_sub hl [1, 2, 0] rfl) hW
  · replace hf := (if_neg c4).symm.trans hf
    refine lv_aload_n hx hb dX12_end_36 rfl (lv_at hl 0 rfl) ?_
    refine gw_get (v := .ref (ka K 3)) F inc_X12 hW 0 10 4 (aM_0 K σ) rfl (by decide) (hG _ q_6_116) (fun _ h9 => h9) rfl dX12_end_37 ?_
    refine lv_aload_n hx hb dX12_end_40 rfl (lv_at hl 0 rfl) ?_
    refine gw_get (v := .int (σ.1 1)) F inc_X12 hW 0 10 6 (aM_0 K σ) rfl (by decide) (hG _ q_6_118) (fun _ h9 => h9) rfl dX12_end_41 ?_
    refine lv_iload_n hx hb dX12_end_44 rfl (lv_at hl 2 rfl) ?_
    refine lv_iadd hx hb dX12_end_45 ?_
    refine lv_aload_n hx hb dX12_end_46 rfl (lv_at hl 0 rfl) ?_
    refine gw_get (v := .ref (ka K 4)) F inc_X12 hW 0 10 5 (aM_0 K σ) rfl (by decide) (hG _ q_6_117) (fun _ h9 => h9) rfl dX12_end_47 ?_
    refine lv_iload_n hx hb dX12_end_50 rfl (lv_at hl 2 rfl) ?_
    rcases Decidable.em (x2 < 0 ∨ 20 ≤ x2.toNatClampNeg) with c7 | c7
    · replace hf := (if_pos c7).symm.trans hf
      exact absurd hf (by simp)
    · replace hf := (if_neg c7).symm.trans hf
      refine gw_bald F hW 4 3 (aM_4 K σ) rfl c7 dX12_end_51 ?_
      rcases Decidable.em (((σ.1 1) + x2) < 0 ∨ 4096 ≤ ((σ.1 1) + x2).toNatClampNeg) with c8 | c8
      · replace hf := (if_pos c8).symm.trans hf
        exact absurd hf (by simp)
      · replace hf := (if_neg c8).symm.trans hf
        refine gw_bast (σ' := (stA σ 2 ((σ.1 1) + x2).toNatClampNeg (vp_nar .byte (σ.2.1 3 x2.toNatClampNeg)))) F hW 3 2 (aM_3 K σ) rfl c8 dX12_end_52 (sAM_2 _ _ _) (fun H locs hW => ?_)
        refine lv_iinc (v := (x2 + (1 : Int32))) (lv' := [(2, .int (x2 + (1 : Int32))), (0, .ref (ka K 0)), (1, .int x1)]) hx hb dX12_end_53 hl (k := 2) rfl rfl (by decide) rfl (fun ls hl => ?_)
        refine lv_goto (tgt := 31) hx hb dX12_end_56 (by decide) ?_
        exact hk31 _ _ hf _ _ _ (lv_sub hl [1, 2, 0] rfl) hW
set_option maxHeartbeats 4000000 in
set_option maxRecDepth 100000 in
theorem wMX12_end_0_0 {p : Program} {l : Launch} {e : Env} {s : State} {m : MethodId} {args : Array Value} {below : List Frame} {meth : Method} {c : Code} {A : Nat → Prop} {K : KX} (F : fx_ p s m args meth c cX12_end 3 (some .int) RX12 wsX12_end) (x1 : Int32) (σ : XS) (o : (Int32 × XS)) (hf : fMX12_end_0_0 (kn K) x1 σ = some o) (H : Heap) (locs : List Loc) (ls : Array Slot) (hl : lv_has ls 3 [(0, .ref (ka K 0)), (1, .int x1)]) (hW : gw_ (kD K) vwCl (tyM K) (wM K) A s σ H locs) : W p l e rMX12_end_0 s m args below meth c H locs 0 0 (MQ below (gw_Qi (kD K) vwCl (tyM K) (wM K) A o) args s rMX12_end_0.cells rMX12_end_0.slots A) (F0 m 0 ls []) := by
  have hx := F.1
  have hb := F.2.1
  have hml := F.2.2.2.1
  have hown := F.2.2.2.2.1
  have hts := F.2.2.2.2.2.1
  have hG : ∀ x ∈ gT, x.before args s = true := fun x h => hts x (List.mem_cons_of_mem _ h)
  unfold fMX12_end_0_0 at hf
  refine lv_aload_n hx hb dX12_end_0 rfl (lv_at hl 0 rfl) ?_
  refine lv_iconst (v := (0 : Int32)) hx hb dX12_end_1 (by decide) ?_
  refine gw_put (σ' := (stS σ 0 (0 : Int32))) (ty := .int) F inc_X12 tyX12 tyX12_ok nmX12 hW 0 10 0 (aM_0 K σ) rfl (by decide) (hG _ q_6_112) (fun _ h9 => h9) rfl (by decide +kernel) rfl rfl (Nat.le_of_ble_eq_true rfl) dX12_end_2 (sSM_0 _ _ _) (fun H locs hW => ?_)
  refine lv_iload_n hx hb dX12_end_5 rfl (lv_at hl 1 rfl) ?_
  refine lv_if_lt (tgt := 27) hx hb dX12_end_6 (by decide) (fun c1 => ?_) (fun c1 => ?_)
  · replace hf := (if_pos c1).symm.trans hf
    refine lv_iconst (v := (-1 : Int32)) hx hb dX12_end_27 (by decide) ?_
    exact gw_reti F hW hf dX12_end_28
  · replace hf := (if_neg c1).symm.trans hf
    refine lv_iload_n hx hb dX12_end_9 rfl (lv_at hl 1 rfl) ?_
    refine lv_bipush (v := (20 : Int32)) hx hb dX12_end_10 (by decide) ?_
    refine lv_icmp_gt (tgt := 27) hx hb dX12_end_12 (by decide) (fun c2 => ?_) (fun c2 => ?_)
    · replace hf := (if_pos c2).symm.trans hf
      refine lv_iconst (v := (-1 : Int32)) hx hb dX12_end_27 (by decide) ?_
      exact gw_reti F hW hf dX12_end_28
    · replace hf := (if_neg c2).symm.trans hf
      refine lv_aload_n hx hb dX12_end_15 rfl (lv_at hl 0 rfl) ?_
      refine gw_get (v := .int (σ.1 1)) F inc_X12 hW 0 10 6 (aM_0 K (stS σ 0 (0 : Int32))) rfl (by decide) (hG _ q_6_118) (fun _ h9 => h9) rfl dX12_end_16 ?_
      refine lv_iload_n hx hb dX12_end_19 rfl (lv_at hl 1 rfl) ?_
      refine lv_iadd hx hb dX12_end_20 ?_
      refine lv_sipush (v := (4096 : Int32)) hx hb dX12_end_21 (by decide) ?_
      refine lv_icmp_le (tgt := 29) hx hb dX12_end_24 (by decide) (fun c3 => ?_) (fun c3 => ?_)
      · replace hf := (if_pos c3).symm.trans hf
        refine lv_iconst (v := (0 : Int32)) hx hb dX12_end_29 (by decide) ?_
        refine lv_istore_n (lv' := [(2, .int (0 : Int32)), (0, .ref (ka K 0)), (1, .int x1)]) hx hb dX12_end_30 rfl hl (by decide) rfl (fun ls hl => ?_)
        exact lfix_ind (P := PMX12_end_0_31 p l e s m args below meth c A K) (fun k31 hk31 t o hf => wMX12_end_0_31 F hk31 t.1 t.2.1 t.2.2 o hf) FU _ _ hf _ _ _ (lv_sub hl [1, 2, 0] rfl) hW
      · replace hf := (if_neg c3).symm.trans hf
        refine lv_iconst (v := (-1 : Int32)) hx hb dX12_end_27 (by decide) ?_
        exact gw_reti F hW hf dX12_end_28
set_option maxHeartbeats 4000000 in
set_option maxRecDepth 100000 in
theorem mMX12_end_0 {l : Launch} {K : KX} {σ : XS} {x1 : Int32} {o : (Int32 × XS)} (hf : fMX12_end_0 (kn K) x1 σ = some o) : gw_Mi l (kD K) vwCl (tyM K) (wM K) yX12_end wsX12_end rMX12_end_0 [.ref (ka K 0), .int x1] σ o := by
  intro sz
  refine gw_body (cc := cX12_end) (maxL := 3) (yret := some .int) (by decide +kernel) rfl ?_ (Nat.le_of_ble_eq_true rfl)
  intro p e s m below meth c F hsz hW ls hl
  exact wMX12_end_0_0 F x1 σ o hf s.heap [] ls hl hW
abbrev rMX12_begin_0 : Room := { frames := 0, cells := 0, slots := 0, locals := 0 }
set_option maxHeartbeats 4000000 in
set_option maxRecDepth 100000 in
theorem wMX12_begin_0_0 {p : Program} {l : Launch} {e : Env} {s : State} {m : MethodId} {args : Array Value} {below : List Frame} {meth : Method} {c : Code} {A : Nat → Prop} {K : KX} (F : fx_ p s m args meth c cX12_begin 2 (some .int) RX12 wsX12_begin) (x1 : Int32) (σ : XS) (o : (Int32 × XS)) (hf : fMX12_begin_0_0 (kn K) x1 σ = some o) (H : Heap) (locs : List Loc) (ls : Array Slot) (hl : lv_has ls 2 [(0, .ref (ka K 0)), (1, .int x1)]) (hW : gw_ (kD K) vwCl (tyM K) (wM K) A s σ H locs) : W p l e rMX12_begin_0 s m args below meth c H locs 0 0 (MQ below (gw_Qi (kD K) vwCl (tyM K) (wM K) A o) args s rMX12_begin_0.cells rMX12_begin_0.slots A) (F0 m 0 ls []) := by
  have hx := F.1
  have hb := F.2.1
  have hml := F.2.2.2.1
  have hown := F.2.2.2.2.1
  have hts := F.2.2.2.2.2.1
  have hG : ∀ x ∈ gT, x.before args s = true := fun x h => hts x (List.mem_cons_of_mem _ h)
  unfold fMX12_begin_0_0 at hf
  refine lv_iconst (v := (1 : Int32)) hx hb dX12_begin_0 (by decide) ?_
  refine lv_iload_n hx hb dX12_begin_1 rfl (lv_at hl 1 rfl) ?_
  refine lv_aload_n hx hb dX12_begin_2 rfl (lv_at hl 0 rfl) ?_
  refine gw_get (v := .int (σ.1 4)) F inc_X12 hW 0 10 9 (aM_0 K σ) rfl (by decide) (hG _ q_6_121) (fun _ h9 => h9) rfl dX12_begin_3 ?_
  refine lv_imul hx hb dX12_begin_6 ?_
  refine lv_iadd hx hb dX12_begin_7 ?_
  exact gw_reti F hW hf dX12_begin_8
set_option maxHeartbeats 4000000 in
set_option maxRecDepth 100000 in
theorem mMX12_begin_0 {l : Launch} {K : KX} {σ : XS} {x1 : Int32} {o : (Int32 × XS)} (hf : fMX12_begin_0 (kn K) x1 σ = some o) : gw_Mi l (kD K) vwCl (tyM K) (wM K) yX12_begin wsX12_begin rMX12_begin_0 [.ref (ka K 0), .int x1] σ o := by
  intro sz
  refine gw_body (cc := cX12_begin) (maxL := 2) (yret := some .int) (by decide +kernel) rfl ?_ (Nat.le_of_ble_eq_true rfl)
  intro p e s m below meth c F hsz hW ls hl
  exact wMX12_begin_0_0 F x1 σ o hf s.heap [] ls hl hW
abbrev rMX12_room_0 : Room := { frames := 1, cells := 0, slots := 0, locals := 21 }
set_option maxHeartbeats 4000000 in
set_option maxRecDepth 100000 in
theorem wMX12_room_0_0 {p : Program} {l : Launch} {e : Env} {s : State} {m : MethodId} {args : Array Value} {below : List Frame} {meth : Method} {c : Code} {A : Nat → Prop} {K : KX} (F : fx_ p s m args meth c cX12_room 2 (some .int) RX12 wsX12_room) (x1 : Int32) (σ : XS) (o : (Int32 × XS)) (hf : fMX12_room_0_0 (kn K) x1 σ = some o) (H : Heap) (locs : List Loc) (ls : Array Slot) (hl : lv_has ls 2 [(0, .ref (ka K 0)), (1, .int x1)]) (hW : gw_ (kD K) vwCl (tyM K) (wM K) A s σ H locs) : W p l e rMX12_room_0 s m args below meth c H locs 0 0 (MQ below (gw_Qi (kD K) vwCl (tyM K) (wM K) A o) args s rMX12_room_0.cells rMX12_room_0.slots A) (F0 m 0 ls []) := by
  have hx := F.1
  have hb := F.2.1
  have hml := F.2.2.2.1
  have hown := F.2.2.2.2.1
  have hts := F.2.2.2.2.2.1
  have hG : ∀ x ∈ gT, x.before args s = true := fun x h => hts x (List.mem_cons_of_mem _ h)
  unfold fMX12_room_0_0 at hf
  refine lv_iload_n hx hb dX12_room_0 rfl (lv_at hl 1 rfl) ?_
  refine lv_aload_n hx hb dX12_room_1 rfl (lv_at hl 0 rfl) ?_
  refine gw_get (v := .int (σ.1 7)) F inc_X12 hW 0 10 12 (aM_0 K σ) rfl (by decide) (hG _ q_6_124) (fun _ h9 => h9) rfl dX12_room_2 ?_
  refine lv_iconst (v := (1 : Int32)) hx hb dX12_room_5 (by decide) ?_
  refine lv_isub hx hb dX12_room_6 ?_
  refine lv_icmp_ge (tgt := 17) hx hb dX12_room_7 (by decide) (fun c1 => ?_) (fun c1 => ?_)
  · replace hf := (if_pos c1).symm.trans hf
    refine lv_aload_n hx hb dX12_room_17 rfl (lv_at hl 0 rfl) ?_
    refine gw_get (v := .int (Int32.ofNat (kn K))) F inc_X12 hW 0 10 1 (aM_0 K σ) rfl (by decide) (hG _ q_6_113) (fun _ h9 => h9) rfl dX12_room_18 ?_
    refine lv_aload_n hx hb dX12_room_21 rfl (lv_at hl 0 rfl) ?_
    refine lv_iload_n hx hb dX12_room_22 rfl (lv_at hl 1 rfl) ?_
    obtain ⟨o2, h3, hf⟩ := gw_bind hf
    refine gw_Vi (As := [.int x1]) (mc' := 0) (ms' := 0) F hW (mMX12_begin_0 h3) (cwV 1 hts (gT_V q_7_37 q_7_39 qp_45 q_1_12 q_7_40) rfl rfl rfl hdX12_begin ⟨Nat.le_of_ble_eq_true rfl, Nat.le_of_ble_eq_true rfl⟩) 0 10 (aM_0 K σ) rfl rfl hl.1 rfl (Nat.le_of_ble_eq_true rfl) dX12_room_23 ⟨Nat.le_of_ble_eq_true rfl, Nat.le_of_ble_eq_true rfl⟩ rfl rfl (fun H locs hW => ?_)
    refine lv_isub hx hb dX12_room_26 ?_
    exact gw_reti F hW hf dX12_room_27
  · replace hf := (if_neg c1).symm.trans hf
    refine lv_aload_n hx hb dX12_room_10 rfl (lv_at hl 0 rfl) ?_
    refine gw_get (v := .int (σ.1 4)) F inc_X12 hW 0 10 9 (aM_0 K σ) rfl (by decide) (hG _ q_6_121) (fun _ h9 => h9) rfl dX12_room_11 ?_
    refine lv_goto (tgt := 27) hx hb dX12_room_14 (by decide) ?_
    exact gw_reti F hW hf dX12_room_27
set_option maxHeartbeats 4000000 in
set_option maxRecDepth 100000 in
theorem mMX12_room_0 {l : Launch} {K : KX} {σ : XS} {x1 : Int32} {o : (Int32 × XS)} (hf : fMX12_room_0 (kn K) x1 σ = some o) : gw_Mi l (kD K) vwCl (tyM K) (wM K) yX12_room wsX12_room rMX12_room_0 [.ref (ka K 0), .int x1] σ o := by
  intro sz
  refine gw_body (cc := cX12_room) (maxL := 2) (yret := some .int) (by decide +kernel) rfl ?_ (Nat.le_of_ble_eq_true rfl)
  intro p e s m below meth c F hsz hW ls hl
  exact wMX12_room_0_0 F x1 σ o hf s.heap [] ls hl hW
abbrev rMX12_isFixed_0 : Room := { frames := 0, cells := 0, slots := 0, locals := 0 }
set_option maxHeartbeats 4000000 in
set_option maxRecDepth 100000 in
theorem wMX12_isFixed_0_0 {p : Program} {l : Launch} {e : Env} {s : State} {m : MethodId} {args : Array Value} {below : List Frame} {meth : Method} {c : Code} {A : Nat → Prop} {K : KX} (F : fx_ p s m args meth c cX12_isFixed 2 (some .boolean) RX12 wsX12_isFixed) (x1 : Int32) (σ : XS) (o : (Int32 × XS)) (hf : fMX12_isFixed_0_0 (kn K) x1 σ = some o) (H : Heap) (locs : List Loc) (ls : Array Slot) (hl : lv_has ls 2 [(0, .ref (ka K 0)), (1, .int x1)]) (hW : gw_ (kD K) vwCl (tyM K) (wM K) A s σ H locs) : W p l e rMX12_isFixed_0 s m args below meth c H locs 0 0 (MQ below (va_Qi (fun r u => (r = o.1 ∧ u = o.2) ∧ (o.1 = 0 ∨ o.1 = 1)) (gw_B (kD K) vwCl (tyM K) (wM K) A) A) args s rMX12_isFixed_0.cells rMX12_isFixed_0.slots A) (F0 m 0 ls []) := by
  have hx := F.1
  have hb := F.2.1
  have hml := F.2.2.2.1
  have hown := F.2.2.2.2.1
  have hts := F.2.2.2.2.2.1
  have hG : ∀ x ∈ gT, x.before args s = true := fun x h => hts x (List.mem_cons_of_mem _ h)
  unfold fMX12_isFixed_0_0 at hf
  refine lv_iload_n hx hb dX12_isFixed_0 rfl (lv_at hl 1 rfl) ?_
  refine lv_if_le (tgt := 25) hx hb dX12_isFixed_1 (by decide) (fun c1 => ?_) (fun c1 => ?_)
  · replace hf := (if_pos c1).symm.trans hf
    refine lv_iconst (v := (0 : Int32)) hx hb dX12_isFixed_25 (by decide) ?_
    exact gw_retz F hW hf (Or.inl rfl) dX12_isFixed_26
  · replace hf := (if_neg c1).symm.trans hf
    refine lv_iload_n hx hb dX12_isFixed_4 rfl (lv_at hl 1 rfl) ?_
    refine lv_iconst (v := (1 : Int32)) hx hb dX12_isFixed_5 (by decide) ?_
    refine lv_isub hx hb dX12_isFixed_6 ?_
    refine lv_aload_n hx hb dX12_isFixed_7 rfl (lv_at hl 0 rfl) ?_
    refine gw_get (v := .int (σ.1 4)) F inc_X12 hW 0 10 9 (aM_0 K σ) rfl (by decide) (hG _ q_6_121) (fun _ h9 => h9) rfl dX12_isFixed_8 ?_
    rcases Decidable.em ((σ.1 4) = 0) with c2 | c2
    · replace hf := (if_pos c2).symm.trans hf
      exact absurd hf (by simp)
    · replace hf := (if_neg c2).symm.trans hf
      refine lv_irem hx hb dX12_isFixed_11 c2 ?_
      refine lv_iconst (v := (4 : Int32)) hx hb dX12_isFixed_12 (by decide) ?_
      refine lv_aload_n hx hb dX12_isFixed_13 rfl (lv_at hl 0 rfl) ?_
      refine gw_get (v := .int (σ.1 6)) F inc_X12 hW 0 10 11 (aM_0 K σ) rfl (by decide) (hG _ q_6_123) (fun _ h9 => h9) rfl dX12_isFixed_14 ?_
      refine lv_iadd hx hb dX12_isFixed_17 ?_
      refine lv_icmp_ge (tgt := 25) hx hb dX12_isFixed_18 (by decide) (fun c3 => ?_) (fun c3 => ?_)
      · replace hf := (if_pos c3).symm.trans hf
        refine lv_iconst (v := (0 : Int32)) hx hb dX12_isFixed_25 (by decide) ?_
        exact gw_retz F hW hf (Or.inl rfl) dX12_isFixed_26
      · replace hf := (if_neg c3).symm.trans hf
        refine lv_iconst (v := (1 : Int32)) hx hb dX12_isFixed_21 (by decide) ?_
        refine lv_goto (tgt := 26) hx hb dX12_isFixed_22 (by decide) ?_
        exact gw_retz F hW hf (Or.inr rfl) dX12_isFixed_26
set_option maxHeartbeats 4000000 in
set_option maxRecDepth 100000 in
theorem mMX12_isFixed_0 {l : Launch} {K : KX} {σ : XS} {x1 : Int32} {o : (Int32 × XS)} (hf : fMX12_isFixed_0 (kn K) x1 σ = some o) : gw_Mz l (kD K) vwCl (tyM K) (wM K) yX12_isFixed wsX12_isFixed rMX12_isFixed_0 [.ref (ka K 0), .int x1] σ o := by
  intro sz
  refine gw_body (cc := cX12_isFixed) (maxL := 2) (yret := some .boolean) (by decide +kernel) rfl ?_ (Nat.le_of_ble_eq_true rfl)
  intro p e s m below meth c F hsz hW ls hl
  exact wMX12_isFixed_0_0 F x1 σ o hf s.heap [] ls hl hW
abbrev rMX12_freeBlocks_0 : Room := { frames := 0, cells := 0, slots := 0, locals := 0 }
def PMX12_freeBlocks_0_4 (p : Program) (l : Launch) (e : Env) (s : State) (m : MethodId) (args : Array Value) (below : List Frame) (meth : Method) (c : Code) (A : Nat → Prop) (K : KX) (t : (Int32 × Int32 × XS)) (o : (Int32 × XS)) : Prop := ∀ (H : Heap) (locs : List Loc) (ls : Array Slot), lv_has ls 3 [(0, .ref (ka K 0)), (1, .int t.1), (2, .int t.2.1)] → gw_ (kD K) vwCl (tyM K) (wM K) A s t.2.2 H locs → W p l e rMX12_freeBlocks_0 s m args below meth c H locs 0 0 (MQ below (gw_Qi (kD K) vwCl (tyM K) (wM K) A o) args s rMX12_freeBlocks_0.cells rMX12_freeBlocks_0.slots A) (F0 m 4 ls [])
set_option maxHeartbeats 4000000 in
set_option maxRecDepth 100000 in
theorem wMX12_freeBlocks_0_27 {p : Program} {l : Launch} {e : Env} {s : State} {m : MethodId} {args : Array Value} {below : List Frame} {meth : Method} {c : Code} {A : Nat → Prop} {K : KX} (F : fx_ p s m args meth c cX12_freeBlocks 3 (some .int) RX12 wsX12_freeBlocks) {k4 : (Int32 × Int32 × XS) → Option (Int32 × XS)} (hk4 : ∀ t o, k4 t = some o → PMX12_freeBlocks_0_4 p l e s m args below meth c A K t o) (x2 : Int32) (y0 : Int32) (y1 : Int32) (σ : XS) (o : (Int32 × XS)) (hf : fMX12_freeBlocks_0_27 (kn K) k4 x2 y0 y1 σ = some o) (H : Heap) (locs : List Loc) (ls : Array Slot) (hl : lv_has ls 3 [(0, .ref (ka K 0)), (2, .int x2)]) (hW : gw_ (kD K) vwCl (tyM K) (wM K) A s σ H locs) : W p l e rMX12_freeBlocks_0 s m args below meth c H locs 0 0 (MQ below (gw_Qi (kD K) vwCl (tyM K) (wM K) A o) args s rMX12_freeBlocks_0.cells rMX12_freeBlocks_0.slots A) (F0 m 27 ls [.int y0, .int y1]) := by
  have hx := F.1
  have hb := F.2.1
  have hml := F.2.2.2.1
  have hown := F.2.2.2.2.1
  have hts := F.2.2.2.2.2.1
  have hG : ∀ x ∈ gT, x.before args s = true := fun x h => hts x (List.mem_cons_of_mem _ h)
  unfold fMX12_freeBlocks_0_27 at hf
  refine lv_iadd hx hb dX12_freeBlocks_27 ?_
  refine lv_istore_n (lv' := [(1, .int (y1 + y0)), (0, .ref (ka K 0)), (2, .int x2)]) hx hb dX12_freeBlocks_28 rfl hl (by decide) rfl (fun ls hl => ?_)
  refine lv_iinc (v := (x2 + (1 : Int32))) (lv' := [(2, .int (x2 + (1 : Int32))), (1, .int (y1 + y0)), (0, .ref (ka K 0))]) hx hb dX12_freeBlocks_29 hl (k := 2) rfl rfl (by decide) rfl (fun ls hl => ?_)
  refine lv_goto (tgt := 4) hx hb dX12_freeBlocks_32 (by decide) ?_
  exact hk4 _ _ hf _ _ _ (lv_sub hl [2, 1, 0] rfl) hW
set_option maxHeartbeats 4000000 in
set_option maxRecDepth 100000 in
theorem wMX12_freeBlocks_0_4 {p : Program} {l : Launch} {e : Env} {s : State} {m : MethodId} {args : Array Value} {below : List Frame} {meth : Method} {c : Code} {A : Nat → Prop} {K : KX} (F : fx_ p s m args meth c cX12_freeBlocks 3 (some .int) RX12 wsX12_freeBlocks) {k4 : (Int32 × Int32 × XS) → Option (Int32 × XS)} (hk4 : ∀ t o, k4 t = some o → PMX12_freeBlocks_0_4 p l e s m args below meth c A K t o) (x1 : Int32) (x2 : Int32) (σ : XS) (o : (Int32 × XS)) (hf : fMX12_freeBlocks_0_4 (kn K) k4 x1 x2 σ = some o) (H : Heap) (locs : List Loc) (ls : Array Slot) (hl : lv_has ls 3 [(0, .ref (ka K 0)), (1, .int x1), (2, .int x2)]) (hW : gw_ (kD K) vwCl (tyM K) (wM K) A s σ H locs) : W p l e rMX12_freeBlocks_0 s m args below meth c H locs 0 0 (MQ below (gw_Qi (kD K) vwCl (tyM K) (wM K) A o) args s rMX12_freeBlocks_0.cells rMX12_freeBlocks_0.slots A) (F0 m 4 ls []) := by
  have hx := F.1
  have hb := F.2.1
  have hml := F.2.2.2.1
  have hown := F.2.2.2.2.1
  have hts := F.2.2.2.2.2.1
  have hG : ∀ x ∈ gT, x.before args s = true := fun x h => hts x (List.mem_cons_of_mem _ h)
  unfold fMX12_freeBlocks_0_4 at hf
  refine lv_iload_n hx hb dX12_freeBlocks_4 rfl (lv_at hl 2 rfl) ?_
  refine lv_aload_n hx hb dX12_freeBlocks_5 rfl (lv_at hl 0 rfl) ?_
  refine gw_get (v := .int (Int32.ofNat (kn K))) F inc_X12 hW 0 10 1 (aM_0 K σ) rfl (by decide) (hG _ q_6_113) (fun _ h9 => h9) rfl dX12_freeBlocks_6 ?_
  refine lv_icmp_ge (tgt := 35) hx hb dX12_freeBlocks_9 (by decide) (fun c1 => ?_) (fun c1 => ?_)
  · replace hf := (if_pos c1).symm.trans hf
    refine lv_iload_n hx hb dX12_freeBlocks_35 rfl (lv_at hl 1 rfl) ?_
    exact gw_reti F hW hf dX12_freeBlocks_36
  · replace hf := (if_neg c1).symm.trans hf
    refine lv_iload_n hx hb dX12_freeBlocks_12 rfl (lv_at hl 1 rfl) ?_
    refine lv_aload_n hx hb dX12_freeBlocks_13 rfl (lv_at hl 0 rfl) ?_
    refine gw_get (v := .ref (ka K 5)) F inc_X12 hW 0 10 14 (aM_0 K σ) rfl (by decide) (hG _ q_6_126) (fun _ h9 => h9) rfl dX12_freeBlocks_14 ?_
    refine lv_iload_n hx hb dX12_freeBlocks_17 rfl (lv_at hl 2 rfl) ?_
    rcases Decidable.em (x2 < 0 ∨ 512 ≤ x2.toNatClampNeg) with c2 | c2
    · replace hf := (if_pos c2).symm.trans hf
      exact absurd hf (by simp)
    · replace hf := (if_neg c2).symm.trans hf
      refine gw_zald F hW 5 4 (aM_5 K σ) rfl c2 dX12_freeBlocks_18 ?_
      refine lv_if_eq (tgt := 26) hx hb dX12_freeBlocks_19 (by decide) (fun c3 => ?_) (fun c3 => ?_)
      · replace hf := (if_pos c3).symm.trans hf
        refine lv_iconst (v := (1 : Int32)) hx hb dX12_freeBlocks_26 (by decide) ?_
        exact wMX12_freeBlocks_0_27 F hk4 x2 (1 : Int32) x1 _ _ hf _ _ _ (lv_sub hl [0, 2] rfl) hW
      · replace hf := (if_neg c3).symm.trans hf
        refine lv_iconst (v := (0 : Int32)) hx hb dX12_freeBlocks_22 (by decide) ?_
        refine lv_goto (tgt := 27) hx hb dX12_freeBlocks_23 (by decide) ?_
        exact wMX12_freeBlocks_0_27 F hk4 x2 (0 : Int32) x1 _ _ hf _ _ _ (lv_sub hl [0, 2] rfl) hW
set_option maxHeartbeats 4000000 in
set_option maxRecDepth 100000 in
theorem wMX12_freeBlocks_0_0 {p : Program} {l : Launch} {e : Env} {s : State} {m : MethodId} {args : Array Value} {below : List Frame} {meth : Method} {c : Code} {A : Nat → Prop} {K : KX} (F : fx_ p s m args meth c cX12_freeBlocks 3 (some .int) RX12 wsX12_freeBlocks) (σ : XS) (o : (Int32 × XS)) (hf : fMX12_freeBlocks_0_0 (kn K) σ = some o) (H : Heap) (locs : List Loc) (ls : Array Slot) (hl : lv_has ls 3 [(0, .ref (ka K 0))]) (hW : gw_ (kD K) vwCl (tyM K) (wM K) A s σ H locs) : W p l e rMX12_freeBlocks_0 s m args below meth c H locs 0 0 (MQ below (gw_Qi (kD K) vwCl (tyM K) (wM K) A o) args s rMX12_freeBlocks_0.cells rMX12_freeBlocks_0.slots A) (F0 m 0 ls []) := by
  have hx := F.1
  have hb := F.2.1
  have hml := F.2.2.2.1
  have hown := F.2.2.2.2.1
  have hts := F.2.2.2.2.2.1
  have hG : ∀ x ∈ gT, x.before args s = true := fun x h => hts x (List.mem_cons_of_mem _ h)
  unfold fMX12_freeBlocks_0_0 at hf
  refine lv_iconst (v := (0 : Int32)) hx hb dX12_freeBlocks_0 (by decide) ?_
  refine lv_istore_n (lv' := [(1, .int (0 : Int32)), (0, .ref (ka K 0))]) hx hb dX12_freeBlocks_1 rfl hl (by decide) rfl (fun ls hl => ?_)
  refine lv_iconst (v := (1 : Int32)) hx hb dX12_freeBlocks_2 (by decide) ?_
  refine lv_istore_n (lv' := [(2, .int (1 : Int32)), (1, .int (0 : Int32)), (0, .ref (ka K 0))]) hx hb dX12_freeBlocks_3 rfl hl (by decide) rfl (fun ls hl => ?_)
  exact lfix_ind (P := PMX12_freeBlocks_0_4 p l e s m args below meth c A K) (fun k4 hk4 t o hf => wMX12_freeBlocks_0_4 F hk4 t.1 t.2.1 t.2.2 o hf) FU _ _ hf _ _ _ (lv_sub hl [2, 1, 0] rfl) hW
set_option maxHeartbeats 4000000 in
set_option maxRecDepth 100000 in
theorem mMX12_freeBlocks_0 {l : Launch} {K : KX} {σ : XS} {o : (Int32 × XS)} (hf : fMX12_freeBlocks_0 (kn K) σ = some o) : gw_Mi l (kD K) vwCl (tyM K) (wM K) yX12_freeBlocks wsX12_freeBlocks rMX12_freeBlocks_0 [.ref (ka K 0)] σ o := by
  intro sz
  refine gw_body (cc := cX12_freeBlocks) (maxL := 3) (yret := some .int) (by decide +kernel) rfl ?_ (Nat.le_of_ble_eq_true rfl)
  intro p e s m below meth c F hsz hW ls hl
  exact wMX12_freeBlocks_0_0 F σ o hf s.heap [] ls hl hW
abbrev rMX12_freeInodes_0 : Room := { frames := 0, cells := 0, slots := 0, locals := 0 }
def PMX12_freeInodes_0_4 (p : Program) (l : Launch) (e : Env) (s : State) (m : MethodId) (args : Array Value) (below : List Frame) (meth : Method) (c : Code) (A : Nat → Prop) (K : KX) (t : (Int32 × Int32 × XS)) (o : (Int32 × XS)) : Prop := ∀ (H : Heap) (locs : List Loc) (ls : Array Slot), lv_has ls 3 [(0, .ref (ka K 0)), (1, .int t.1), (2, .int t.2.1)] → gw_ (kD K) vwCl (tyM K) (wM K) A s t.2.2 H locs → W p l e rMX12_freeInodes_0 s m args below meth c H locs 0 0 (MQ below (gw_Qi (kD K) vwCl (tyM K) (wM K) A o) args s rMX12_freeInodes_0.cells rMX12_freeInodes_0.slots A) (F0 m 4 ls [])
set_option maxHeartbeats 4000000 in
set_option maxRecDepth 100000 in
theorem wMX12_freeInodes_0_32 {p : Program} {l : Launch} {e : Env} {s : State} {m : MethodId} {args : Array Value} {below : List Frame} {meth : Method} {c : Code} {A : Nat → Prop} {K : KX} (F : fx_ p s m args meth c cX12_freeInodes 3 (some .int) RX12 wsX12_freeInodes) {k4 : (Int32 × Int32 × XS) → Option (Int32 × XS)} (hk4 : ∀ t o, k4 t = some o → PMX12_freeInodes_0_4 p l e s m args below meth c A K t o) (x2 : Int32) (y0 : Int32) (y1 : Int32) (σ : XS) (o : (Int32 × XS)) (hf : fMX12_freeInodes_0_32 (kn K) k4 x2 y0 y1 σ = some o) (H : Heap) (locs : List Loc) (ls : Array Slot) (hl : lv_has ls 3 [(0, .ref (ka K 0)), (2, .int x2)]) (hW : gw_ (kD K) vwCl (tyM K) (wM K) A s σ H locs) : W p l e rMX12_freeInodes_0 s m args below meth c H locs 0 0 (MQ below (gw_Qi (kD K) vwCl (tyM K) (wM K) A o) args s rMX12_freeInodes_0.cells rMX12_freeInodes_0.slots A) (F0 m 32 ls [.int y0, .int y1]) := by
  have hx := F.1
  have hb := F.2.1
  have hml := F.2.2.2.1
  have hown := F.2.2.2.2.1
  have hts := F.2.2.2.2.2.1
  have hG : ∀ x ∈ gT, x.before args s = true := fun x h => hts x (List.mem_cons_of_mem _ h)
  unfold fMX12_freeInodes_0_32 at hf
  refine lv_iadd hx hb dX12_freeInodes_32 ?_
  refine lv_istore_n (lv' := [(1, .int (y1 + y0)), (0, .ref (ka K 0)), (2, .int x2)]) hx hb dX12_freeInodes_33 rfl hl (by decide) rfl (fun ls hl => ?_)
  refine lv_iinc (v := (x2 + (1 : Int32))) (lv' := [(2, .int (x2 + (1 : Int32))), (1, .int (y1 + y0)), (0, .ref (ka K 0))]) hx hb dX12_freeInodes_34 hl (k := 2) rfl rfl (by decide) rfl (fun ls hl => ?_)
  refine lv_goto (tgt := 4) hx hb dX12_freeInodes_37 (by decide) ?_
  exact hk4 _ _ hf _ _ _ (lv_sub hl [2, 1, 0] rfl) hW
set_option maxHeartbeats 4000000 in
set_option maxRecDepth 100000 in
theorem wMX12_freeInodes_0_4 {p : Program} {l : Launch} {e : Env} {s : State} {m : MethodId} {args : Array Value} {below : List Frame} {meth : Method} {c : Code} {A : Nat → Prop} {K : KX} (F : fx_ p s m args meth c cX12_freeInodes 3 (some .int) RX12 wsX12_freeInodes) {k4 : (Int32 × Int32 × XS) → Option (Int32 × XS)} (hk4 : ∀ t o, k4 t = some o → PMX12_freeInodes_0_4 p l e s m args below meth c A K t o) (x1 : Int32) (x2 : Int32) (σ : XS) (o : (Int32 × XS)) (hf : fMX12_freeInodes_0_4 (kn K) k4 x1 x2 σ = some o) (H : Heap) (locs : List Loc) (ls : Array Slot) (hl : lv_has ls 3 [(0, .ref (ka K 0)), (1, .int x1), (2, .int x2)]) (hW : gw_ (kD K) vwCl (tyM K) (wM K) A s σ H locs) : W p l e rMX12_freeInodes_0 s m args below meth c H locs 0 0 (MQ below (gw_Qi (kD K) vwCl (tyM K) (wM K) A o) args s rMX12_freeInodes_0.cells rMX12_freeInodes_0.slots A) (F0 m 4 ls []) := by
  have hx := F.1
  have hb := F.2.1
  have hml := F.2.2.2.1
  have hown := F.2.2.2.2.1
  have hts := F.2.2.2.2.2.1
  have hG : ∀ x ∈ gT, x.before args s = true := fun x h => hts x (List.mem_cons_of_mem _ h)
  unfold fMX12_freeInodes_0_4 at hf
  refine lv_iload_n hx hb dX12_freeInodes_4 rfl (lv_at hl 2 rfl) ?_
  refine lv_aload_n hx hb dX12_freeInodes_5 rfl (lv_at hl 0 rfl) ?_
  refine gw_get (v := .int (σ.1 7)) F inc_X12 hW 0 10 12 (aM_0 K σ) rfl (by decide) (hG _ q_6_124) (fun _ h9 => h9) rfl dX12_freeInodes_6 ?_
  refine lv_aload_n hx hb dX12_freeInodes_9 rfl (lv_at hl 0 rfl) ?_
  refine gw_get (v := .int (σ.1 5)) F inc_X12 hW 0 10 10 (aM_0 K σ) rfl (by decide) (hG _ q_6_122) (fun _ h9 => h9) rfl dX12_freeInodes_10 ?_
  refine lv_imul hx hb dX12_freeInodes_13 ?_
  refine lv_icmp_gt (tgt := 40) hx hb dX12_freeInodes_14 (by decide) (fun c1 => ?_) (fun c1 => ?_)
  · replace hf := (if_pos c1).symm.trans hf
    refine lv_iload_n hx hb dX12_freeInodes_40 rfl (lv_at hl 1 rfl) ?_
    exact gw_reti F hW hf dX12_freeInodes_41
  · replace hf := (if_neg c1).symm.trans hf
    refine lv_iload_n hx hb dX12_freeInodes_17 rfl (lv_at hl 1 rfl) ?_
    refine lv_aload_n hx hb dX12_freeInodes_18 rfl (lv_at hl 0 rfl) ?_
    refine gw_get (v := .ref (ka K 7)) F inc_X12 hW 0 10 16 (aM_0 K σ) rfl (by decide) (hG _ q_6_128) (fun _ h9 => h9) rfl dX12_freeInodes_19 ?_
    refine lv_iload_n hx hb dX12_freeInodes_22 rfl (lv_at hl 2 rfl) ?_
    rcases Decidable.em (x2 < 0 ∨ 2100 ≤ x2.toNatClampNeg) with c2 | c2
    · replace hf := (if_pos c2).symm.trans hf
      exact absurd hf (by simp)
    · replace hf := (if_neg c2).symm.trans hf
      refine gw_iald F hW 7 6 (aM_7 K σ) rfl c2 dX12_freeInodes_23 ?_
      refine lv_if_ne (tgt := 31) hx hb dX12_freeInodes_24 (by decide) (fun c3 => ?_) (fun c3 => ?_)
      · replace hf := (if_neg c3).symm.trans hf
        refine lv_iconst (v := (0 : Int32)) hx hb dX12_freeInodes_31 (by decide) ?_
        exact wMX12_freeInodes_0_32 F hk4 x2 (0 : Int32) x1 _ _ hf _ _ _ (lv_sub hl [0, 2] rfl) hW
      · replace hf := (if_pos c3).symm.trans hf
        refine lv_iconst (v := (1 : Int32)) hx hb dX12_freeInodes_27 (by decide) ?_
        refine lv_goto (tgt := 32) hx hb dX12_freeInodes_28 (by decide) ?_
        exact wMX12_freeInodes_0_32 F hk4 x2 (1 : Int32) x1 _ _ hf _ _ _ (lv_sub hl [0, 2] rfl) hW
set_option maxHeartbeats 4000000 in
set_option maxRecDepth 100000 in
theorem wMX12_freeInodes_0_0 {p : Program} {l : Launch} {e : Env} {s : State} {m : MethodId} {args : Array Value} {below : List Frame} {meth : Method} {c : Code} {A : Nat → Prop} {K : KX} (F : fx_ p s m args meth c cX12_freeInodes 3 (some .int) RX12 wsX12_freeInodes) (σ : XS) (o : (Int32 × XS)) (hf : fMX12_freeInodes_0_0 (kn K) σ = some o) (H : Heap) (locs : List Loc) (ls : Array Slot) (hl : lv_has ls 3 [(0, .ref (ka K 0))]) (hW : gw_ (kD K) vwCl (tyM K) (wM K) A s σ H locs) : W p l e rMX12_freeInodes_0 s m args below meth c H locs 0 0 (MQ below (gw_Qi (kD K) vwCl (tyM K) (wM K) A o) args s rMX12_freeInodes_0.cells rMX12_freeInodes_0.slots A) (F0 m 0 ls []) := by
  have hx := F.1
  have hb := F.2.1
  have hml := F.2.2.2.1
  have hown := F.2.2.2.2.1
  have hts := F.2.2.2.2.2.1
  have hG : ∀ x ∈ gT, x.before args s = true := fun x h => hts x (List.mem_cons_of_mem _ h)
  unfold fMX12_freeInodes_0_0 at hf
  refine lv_iconst (v := (0 : Int32)) hx hb dX12_freeInodes_0 (by decide) ?_
  refine lv_istore_n (lv' := [(1, .int (0 : Int32)), (0, .ref (ka K 0))]) hx hb dX12_freeInodes_1 rfl hl (by decide) rfl (fun ls hl => ?_)
  refine lv_iconst (v := (1 : Int32)) hx hb dX12_freeInodes_2 (by decide) ?_
  refine lv_istore_n (lv' := [(2, .int (1 : Int32)), (1, .int (0 : Int32)), (0, .ref (ka K 0))]) hx hb dX12_freeInodes_3 rfl hl (by decide) rfl (fun ls hl => ?_)
  exact lfix_ind (P := PMX12_freeInodes_0_4 p l e s m args below meth c A K) (fun k4 hk4 t o hf => wMX12_freeInodes_0_4 F hk4 t.1 t.2.1 t.2.2 o hf) FU _ _ hf _ _ _ (lv_sub hl [2, 1, 0] rfl) hW
set_option maxHeartbeats 4000000 in
set_option maxRecDepth 100000 in
theorem mMX12_freeInodes_0 {l : Launch} {K : KX} {σ : XS} {o : (Int32 × XS)} (hf : fMX12_freeInodes_0 (kn K) σ = some o) : gw_Mi l (kD K) vwCl (tyM K) (wM K) yX12_freeInodes wsX12_freeInodes rMX12_freeInodes_0 [.ref (ka K 0)] σ o := by
  intro sz
  refine gw_body (cc := cX12_freeInodes) (maxL := 3) (yret := some .int) (by decide +kernel) rfl ?_ (Nat.le_of_ble_eq_true rfl)
  intro p e s m below meth c F hsz hW ls hl
  exact wMX12_freeInodes_0_0 F σ o hf s.heap [] ls hl hW
abbrev rMX12_take_0 : Room := { frames := 0, cells := 0, slots := 0, locals := 0 }
def PMX12_take_0_33 (p : Program) (l : Launch) (e : Env) (s : State) (m : MethodId) (args : Array Value) (below : List Frame) (meth : Method) (c : Code) (A : Nat → Prop) (K : KX) (t : (Int32 × Int32 × XS)) (o : (Int32 × XS)) : Prop := ∀ (H : Heap) (locs : List Loc) (ls : Array Slot), lv_has ls 3 [(0, .ref (ka K 0)), (1, .int t.1), (2, .int t.2.1)] → gw_ (kD K) vwCl (tyM K) (wM K) A s t.2.2 H locs → W p l e rMX12_take_0 s m args below meth c H locs 0 0 (MQ below (gw_Qi (kD K) vwCl (tyM K) (wM K) A o) args s rMX12_take_0.cells rMX12_take_0.slots A) (F0 m 33 ls [])
def PMX12_take_0_2 (p : Program) (l : Launch) (e : Env) (s : State) (m : MethodId) (args : Array Value) (below : List Frame) (meth : Method) (c : Code) (A : Nat → Prop) (K : KX) (t : (Int32 × XS)) (o : (Int32 × XS)) : Prop := ∀ (H : Heap) (locs : List Loc) (ls : Array Slot), lv_has ls 3 [(0, .ref (ka K 0)), (1, .int t.1)] → gw_ (kD K) vwCl (tyM K) (wM K) A s t.2 H locs → W p l e rMX12_take_0 s m args below meth c H locs 0 0 (MQ below (gw_Qi (kD K) vwCl (tyM K) (wM K) A o) args s rMX12_take_0.cells rMX12_take_0.slots A) (F0 m 2 ls [])
set_option maxHeartbeats 4000000 in
set_option maxRecDepth 100000 in
theorem wMX12_take_0_33 {p : Program} {l : Launch} {e : Env} {s : State} {m : MethodId} {args : Array Value} {below : List Frame} {meth : Method} {c : Code} {A : Nat → Prop} {K : KX} (F : fx_ p s m args meth c cX12_take 3 (some .int) RX12 wsX12_take) {k33 : (Int32 × Int32 × XS) → Option (Int32 × XS)} (hk33 : ∀ t o, k33 t = some o → PMX12_take_0_33 p l e s m args below meth c A K t o) (x1 : Int32) (x2 : Int32) (σ : XS) (o : (Int32 × XS)) (hf : fMX12_take_0_33 (kn K) k33 x1 x2 σ = some o) (H : Heap) (locs : List Loc) (ls : Array Slot) (hl : lv_has ls 3 [(0, .ref (ka K 0)), (1, .int x1), (2, .int x2)]) (hW : gw_ (kD K) vwCl (tyM K) (wM K) A s σ H locs) : W p l e rMX12_take_0 s m args below meth c H locs 0 0 (MQ below (gw_Qi (kD K) vwCl (tyM K) (wM K) A o) args s rMX12_take_0.cells rMX12_take_0.slots A) (F0 m 33 ls []) := by
  have hx := F.1
  have hb := F.2.1
  have hml := F.2.2.2.1
  have hown := F.2.2.2.2.1
  have hts := F.2.2.2.2.2.1
  have hG : ∀ x ∈ gT, x.before args s = true := fun x h => hts x (List.mem_cons_of_mem _ h)
  unfold fMX12_take_0_33 at hf
  refine lv_iload_n hx hb dX12_take_33 rfl (lv_at hl 2 rfl) ?_
  refine lv_sipush (v := (1024 : Int32)) hx hb dX12_take_34 (by decide) ?_
  refine lv_icmp_ge (tgt := 59) hx hb dX12_take_37 (by decide) (fun c5 => ?_) (fun c5 => ?_)
  · replace hf := (if_pos c5).symm.trans hf
    refine lv_iload_n hx hb dX12_take_59 rfl (lv_at hl 1 rfl) ?_
    exact gw_reti F hW hf dX12_take_60
  · replace hf := (if_neg c5).symm.trans hf
    refine lv_aload_n hx hb dX12_take_40 rfl (lv_at hl 0 rfl) ?_
    refine gw_get (v := .ref (ka K 1)) F inc_X12 hW 0 10 2 (aM_0 K σ) rfl (by decide) (hG _ q_6_114) (fun _ h9 => h9) rfl dX12_take_41 ?_
    refine lv_sipush (v := (1024 : Int32)) hx hb dX12_take_44 (by decide) ?_
    refine lv_iload_n hx hb dX12_take_47 rfl (lv_at hl 1 rfl) ?_
    refine lv_imul hx hb dX12_take_48 ?_
    refine lv_iload_n hx hb dX12_take_49 rfl (lv_at hl 2 rfl) ?_
    refine lv_iadd hx hb dX12_take_50 ?_
    refine lv_iconst (v := (0 : Int32)) hx hb dX12_take_51 (by decide) ?_
    rcases Decidable.em ((((1024 : Int32) * x1) + x2) < 0 ∨ 524288 ≤ (((1024 : Int32) * x1) + x2).toNatClampNeg) with c6 | c6
    · replace hf := (if_pos c6).symm.trans hf
      exact absurd hf (by simp)
    · replace hf := (if_neg c6).symm.trans hf
      refine gw_bast (σ' := (stA σ 0 (((1024 : Int32) * x1) + x2).toNatClampNeg (vp_nar .byte (0 : Int32)))) F hW 1 0 (aM_1 K σ) rfl c6 dX12_take_52 (sAM_0 _ _ _) (fun H locs hW => ?_)
      refine lv_iinc (v := (x2 + (1 : Int32))) (lv' := [(2, .int (x2 + (1 : Int32))), (0, .ref (ka K 0)), (1, .int x1)]) hx hb dX12_take_53 hl (k := 2) rfl rfl (by decide) rfl (fun ls hl => ?_)
      refine lv_goto (tgt := 33) hx hb dX12_take_56 (by decide) ?_
      exact hk33 _ _ hf _ _ _ (lv_sub hl [1, 2, 0] rfl) hW
set_option maxHeartbeats 4000000 in
set_option maxRecDepth 100000 in
theorem wMX12_take_0_2 {p : Program} {l : Launch} {e : Env} {s : State} {m : MethodId} {args : Array Value} {below : List Frame} {meth : Method} {c : Code} {A : Nat → Prop} {K : KX} (F : fx_ p s m args meth c cX12_take 3 (some .int) RX12 wsX12_take) {k2 : (Int32 × XS) → Option (Int32 × XS)} (hk2 : ∀ t o, k2 t = some o → PMX12_take_0_2 p l e s m args below meth c A K t o) (x1 : Int32) (σ : XS) (o : (Int32 × XS)) (hf : fMX12_take_0_2 (kn K) k2 x1 σ = some o) (H : Heap) (locs : List Loc) (ls : Array Slot) (hl : lv_has ls 3 [(0, .ref (ka K 0)), (1, .int x1)]) (hW : gw_ (kD K) vwCl (tyM K) (wM K) A s σ H locs) : W p l e rMX12_take_0 s m args below meth c H locs 0 0 (MQ below (gw_Qi (kD K) vwCl (tyM K) (wM K) A o) args s rMX12_take_0.cells rMX12_take_0.slots A) (F0 m 2 ls []) := by
  have hx := F.1
  have hb := F.2.1
  have hml := F.2.2.2.1
  have hown := F.2.2.2.2.1
  have hts := F.2.2.2.2.2.1
  have hG : ∀ x ∈ gT, x.before args s = true := fun x h => hts x (List.mem_cons_of_mem _ h)
  unfold fMX12_take_0_2 at hf
  refine lv_aload_n hx hb dX12_take_2 rfl (lv_at hl 0 rfl) ?_
  refine gw_get (v := .ref (ka K 5)) F inc_X12 hW 0 10 14 (aM_0 K σ) rfl (by decide) (hG _ q_6_126) (fun _ h9 => h9) rfl dX12_take_3 ?_
  refine lv_iload_n hx hb dX12_take_6 rfl (lv_at hl 1 rfl) ?_
  rcases Decidable.em (x1 < 0 ∨ 512 ≤ x1.toNatClampNeg) with c1 | c1
  · replace hf := (if_pos c1).symm.trans hf
    exact absurd hf (by simp)
  · replace hf := (if_neg c1).symm.trans hf
    refine gw_zald F hW 5 4 (aM_5 K σ) rfl c1 dX12_take_7 ?_
    refine lv_if_eq (tgt := 17) hx hb dX12_take_8 (by decide) (fun c2 => ?_) (fun c2 => ?_)
    · replace hf := (if_pos c2).symm.trans hf
      refine lv_aload_n hx hb dX12_take_17 rfl (lv_at hl 0 rfl) ?_
      refine gw_get (v := .ref (ka K 5)) F inc_X12 hW 0 10 14 (aM_0 K σ) rfl (by decide) (hG _ q_6_126) (fun _ h9 => h9) rfl dX12_take_18 ?_
      refine lv_iload_n hx hb dX12_take_21 rfl (lv_at hl 1 rfl) ?_
      refine lv_iconst (v := (1 : Int32)) hx hb dX12_take_22 (by decide) ?_
      rcases Decidable.em (x1 < 0 ∨ 512 ≤ x1.toNatClampNeg) with c3 | c3
      · replace hf := (if_pos c3).symm.trans hf
        exact absurd hf (by simp)
      · replace hf := (if_neg c3).symm.trans hf
        refine gw_zast (σ' := (stA σ 4 x1.toNatClampNeg (vp_nar .boolean (1 : Int32)))) F hW 5 4 (aM_5 K σ) rfl c3 dX12_take_23 (sAM_4 _ _ _) (fun H locs hW => ?_)
        refine lv_aload_n hx hb dX12_take_24 rfl (lv_at hl 0 rfl) ?_
        refine gw_get (v := .ref (ka K 6)) F inc_X12 hW 0 10 15 (aM_0 K (stA σ 4 x1.toNatClampNeg (vp_nar .boolean (1 : Int32)))) rfl (by decide) (hG _ q_6_127) (fun _ h9 => h9) rfl dX12_take_25 ?_
        refine lv_iload_n hx hb dX12_take_28 rfl (lv_at hl 1 rfl) ?_
        refine lv_iconst (v := (0 : Int32)) hx hb dX12_take_29 (by decide) ?_
        rcases Decidable.em (x1 < 0 ∨ 512 ≤ x1.toNatClampNeg) with c4 | c4
        · replace hf := (if_pos c4).symm.trans hf
          exact absurd hf (by simp)
        · replace hf := (if_neg c4).symm.trans hf
          refine gw_iast (σ' := (stA (stA σ 4 x1.toNatClampNeg (vp_nar .boolean (1 : Int32))) 5 x1.toNatClampNeg (0 : Int32))) F hW 6 5 (aM_6 K (stA σ 4 x1.toNatClampNeg (vp_nar .boolean (1 : Int32)))) rfl c4 dX12_take_30 (sAM_5 _ _ _) (fun H locs hW => ?_)
          refine lv_iconst (v := (0 : Int32)) hx hb dX12_take_31 (by decide) ?_
          refine lv_istore_n (lv' := [(2, .int (0 : Int32)), (0, .ref (ka K 0)), (1, .int x1)]) hx hb dX12_take_32 rfl hl (by decide) rfl (fun ls hl => ?_)
          exact lfix_ind (P := PMX12_take_0_33 p l e s m args below meth c A K) (fun k33 hk33 t o hf => wMX12_take_0_33 F hk33 t.1 t.2.1 t.2.2 o hf) FU _ _ hf _ _ _ (lv_sub hl [1, 2, 0] rfl) hW
    · replace hf := (if_neg c2).symm.trans hf
      refine lv_iinc (v := (x1 + (1 : Int32))) (lv' := [(1, .int (x1 + (1 : Int32))), (0, .ref (ka K 0))]) hx hb dX12_take_11 hl (k := 1) rfl rfl (by decide) rfl (fun ls hl => ?_)
      refine lv_goto (tgt := 2) hx hb dX12_take_14 (by decide) ?_
      exact hk2 _ _ hf _ _ _ (lv_sub hl [1, 0] rfl) hW
set_option maxHeartbeats 4000000 in
set_option maxRecDepth 100000 in
theorem wMX12_take_0_0 {p : Program} {l : Launch} {e : Env} {s : State} {m : MethodId} {args : Array Value} {below : List Frame} {meth : Method} {c : Code} {A : Nat → Prop} {K : KX} (F : fx_ p s m args meth c cX12_take 3 (some .int) RX12 wsX12_take) (σ : XS) (o : (Int32 × XS)) (hf : fMX12_take_0_0 (kn K) σ = some o) (H : Heap) (locs : List Loc) (ls : Array Slot) (hl : lv_has ls 3 [(0, .ref (ka K 0))]) (hW : gw_ (kD K) vwCl (tyM K) (wM K) A s σ H locs) : W p l e rMX12_take_0 s m args below meth c H locs 0 0 (MQ below (gw_Qi (kD K) vwCl (tyM K) (wM K) A o) args s rMX12_take_0.cells rMX12_take_0.slots A) (F0 m 0 ls []) := by
  have hx := F.1
  have hb := F.2.1
  have hml := F.2.2.2.1
  have hown := F.2.2.2.2.1
  have hts := F.2.2.2.2.2.1
  have hG : ∀ x ∈ gT, x.before args s = true := fun x h => hts x (List.mem_cons_of_mem _ h)
  unfold fMX12_take_0_0 at hf
  refine lv_iconst (v := (1 : Int32)) hx hb dX12_take_0 (by decide) ?_
  refine lv_istore_n (lv' := [(1, .int (1 : Int32)), (0, .ref (ka K 0))]) hx hb dX12_take_1 rfl hl (by decide) rfl (fun ls hl => ?_)
  exact lfix_ind (P := PMX12_take_0_2 p l e s m args below meth c A K) (fun k2 hk2 t o hf => wMX12_take_0_2 F hk2 t.1 t.2 o hf) FU _ _ hf _ _ _ (lv_sub hl [1, 0] rfl) hW
set_option maxHeartbeats 4000000 in
set_option maxRecDepth 100000 in
theorem mMX12_take_0 {l : Launch} {K : KX} {σ : XS} {o : (Int32 × XS)} (hf : fMX12_take_0 (kn K) σ = some o) : gw_Mi l (kD K) vwCl (tyM K) (wM K) yX12_take wsX12_take rMX12_take_0 [.ref (ka K 0)] σ o := by
  intro sz
  refine gw_body (cc := cX12_take) (maxL := 3) (yret := some .int) (by decide +kernel) rfl ?_ (Nat.le_of_ble_eq_true rfl)
  intro p e s m below meth c F hsz hW ls hl
  exact wMX12_take_0_0 F σ o hf s.heap [] ls hl hW
abbrev rMX12_all : Room := { frames := 1, cells := 0, slots := 0, locals := 21 }
set_option maxHeartbeats 4000000 in
set_option maxRecDepth 100000 in
theorem wMX12_all_12 {p : Program} {l : Launch} {e : Env} {s : State} {m : MethodId} {args : Array Value} {below : List Frame} {meth : Method} {c : Code} {A : Nat → Prop} {K : KX} (F : fx_ p s m args meth c cX12_all 1 (some .int) RX12 wsX12_all) (x0 : Int32) (y0 : Int32) (y1 : Int32) (σ : XS) (o : (Int32 × XS)) (hf : fMX12_all_12 (kn K) x0 y0 y1 σ = some o) (H : Heap) (locs : List Loc) (ls : Array Slot) (hl : lv_has ls 1 [(0, .int x0)]) (hW : gw_ (kD K) vwCl (tyM K) (wM K) A s σ H locs) : W p l e rMX12_all s m args below meth c H locs 0 0 (MQ below (gw_Qi (kD K) vwCl (tyM K) (wM K) A o) args s rMX12_all.cells rMX12_all.slots A) (F0 m 12 ls [.int y0, .int y1]) := by
  have hx := F.1
  have hb := F.2.1
  have hml := F.2.2.2.1
  have hown := F.2.2.2.2.1
  have hts := F.2.2.2.2.2.1
  have hG : ∀ x ∈ gT, x.before args s = true := fun x h => hts x (List.mem_cons_of_mem _ h)
  unfold fMX12_all_12 at hf
  refine lv_iadd hx hb dX12_all_12 ?_
  refine lv_iload_n hx hb dX12_all_13 rfl (lv_at hl 0 rfl) ?_
  refine lv_sipush (v := (268 : Int32)) hx hb dX12_all_14 (by decide) ?_
  refine lv_icmp_le (tgt := 36) hx hb dX12_all_17 (by decide) (fun c2 => ?_) (fun c2 => ?_)
  · replace hf := (if_pos c2).symm.trans hf
    refine lv_iconst (v := (0 : Int32)) hx hb dX12_all_36 (by decide) ?_
    refine lv_iadd hx hb dX12_all_37 ?_
    exact gw_reti F hW hf dX12_all_38
  · replace hf := (if_neg c2).symm.trans hf
    refine lv_iconst (v := (1 : Int32)) hx hb dX12_all_20 (by decide) ?_
    refine lv_iload_n hx hb dX12_all_21 rfl (lv_at hl 0 rfl) ?_
    refine lv_sipush (v := (268 : Int32)) hx hb dX12_all_22 (by decide) ?_
    refine lv_isub hx hb dX12_all_25 ?_
    refine lv_sipush (v := (256 : Int32)) hx hb dX12_all_26 (by decide) ?_
    obtain ⟨o3, h4, hf⟩ := gw_bind hf
    refine gw_Si (As := [.int (x0 - (268 : Int32)), .int (256 : Int32)]) (mc' := 0) (ms' := 0) F hW (mMX12_parts h4) (va_cwS 2 hts (gT_S q_6_230 q_6_231 q_1_12 q_6_232) rfl rfl rfl hdX12_parts.2 ⟨Nat.le_of_ble_eq_true rfl, Nat.le_of_ble_eq_true rfl⟩) rfl hl.1 rfl (Nat.le_of_ble_eq_true rfl) dX12_all_29 ⟨Nat.le_of_ble_eq_true rfl, Nat.le_of_ble_eq_true rfl⟩ rfl rfl (fun H locs hW => ?_)
    refine lv_iadd hx hb dX12_all_32 ?_
    refine lv_goto (tgt := 37) hx hb dX12_all_33 (by decide) ?_
    refine lv_iadd hx hb dX12_all_37 ?_
    exact gw_reti F hW hf dX12_all_38
set_option maxHeartbeats 4000000 in
set_option maxRecDepth 100000 in
theorem wMX12_all_0 {p : Program} {l : Launch} {e : Env} {s : State} {m : MethodId} {args : Array Value} {below : List Frame} {meth : Method} {c : Code} {A : Nat → Prop} {K : KX} (F : fx_ p s m args meth c cX12_all 1 (some .int) RX12 wsX12_all) (x0 : Int32) (σ : XS) (o : (Int32 × XS)) (hf : fMX12_all_0 (kn K) x0 σ = some o) (H : Heap) (locs : List Loc) (ls : Array Slot) (hl : lv_has ls 1 [(0, .int x0)]) (hW : gw_ (kD K) vwCl (tyM K) (wM K) A s σ H locs) : W p l e rMX12_all s m args below meth c H locs 0 0 (MQ below (gw_Qi (kD K) vwCl (tyM K) (wM K) A o) args s rMX12_all.cells rMX12_all.slots A) (F0 m 0 ls []) := by
  have hx := F.1
  have hb := F.2.1
  have hml := F.2.2.2.1
  have hown := F.2.2.2.2.1
  have hts := F.2.2.2.2.2.1
  have hG : ∀ x ∈ gT, x.before args s = true := fun x h => hts x (List.mem_cons_of_mem _ h)
  unfold fMX12_all_0 at hf
  refine lv_iload_n hx hb dX12_all_0 rfl (lv_at hl 0 rfl) ?_
  refine lv_iload_n hx hb dX12_all_1 rfl (lv_at hl 0 rfl) ?_
  refine lv_bipush (v := (12 : Int32)) hx hb dX12_all_2 (by decide) ?_
  refine lv_icmp_le (tgt := 11) hx hb dX12_all_4 (by decide) (fun c1 => ?_) (fun c1 => ?_)
  · replace hf := (if_pos c1).symm.trans hf
    refine lv_iconst (v := (0 : Int32)) hx hb dX12_all_11 (by decide) ?_
    exact wMX12_all_12 F x0 (0 : Int32) x0 _ _ hf _ _ _ (lv_sub hl [0] rfl) hW
  · replace hf := (if_neg c1).symm.trans hf
    refine lv_iconst (v := (1 : Int32)) hx hb dX12_all_7 (by decide) ?_
    refine lv_goto (tgt := 12) hx hb dX12_all_8 (by decide) ?_
    exact wMX12_all_12 F x0 (1 : Int32) x0 _ _ hf _ _ _ (lv_sub hl [0] rfl) hW
set_option maxHeartbeats 4000000 in
set_option maxRecDepth 100000 in
theorem mMX12_all {l : Launch} {K : KX} {σ : XS} {x0 : Int32} {o : (Int32 × XS)} (hf : fMX12_all (kn K) x0 σ = some o) : gw_Mi l (kD K) vwCl (tyM K) (wM K) yX12_all wsX12_all rMX12_all [.int x0] σ o := by
  intro sz
  refine gw_body (cc := cX12_all) (maxL := 1) (yret := some .int) (by decide +kernel) rfl ?_ (Nat.le_of_ble_eq_true rfl)
  intro p e s m below meth c F hsz hW ls hl
  exact wMX12_all_0 F x0 σ o hf s.heap [] ls hl hW
abbrev rMX12_gain_0 : Room := { frames := 1, cells := 0, slots := 0, locals := 22 }
def PMX12_gain_0_84 (p : Program) (l : Launch) (e : Env) (s : State) (m : MethodId) (args : Array Value) (below : List Frame) (meth : Method) (c : Code) (A : Nat → Prop) (K : KX) (t : (Int32 × Int32 × Int32 × Int32 × XS)) (o : XS) : Prop := ∀ (H : Heap) (locs : List Loc) (ls : Array Slot), lv_has ls 5 [(0, .ref (ka K 0)), (1, .int t.1), (2, .int t.2.1), (3, .int t.2.2.1), (4, .int t.2.2.2.1)] → gw_ (kD K) vwCl (tyM K) (wM K) A s t.2.2.2.2 H locs → W p l e rMX12_gain_0 s m args below meth c H locs 0 0 (MQ below (gw_Qv (kD K) vwCl (tyM K) (wM K) A o) args s rMX12_gain_0.cells rMX12_gain_0.slots A) (F0 m 84 ls [])
set_option maxHeartbeats 4000000 in
set_option maxRecDepth 100000 in
theorem wMX12_gain_0_155 {p : Program} {l : Launch} {e : Env} {s : State} {m : MethodId} {args : Array Value} {below : List Frame} {meth : Method} {c : Code} {A : Nat → Prop} {K : KX} (F : fx_ p s m args meth c cX12_gain 5 none RX12 wsX12_gain) (x1 : Int32) (x3 : Int32) (σ : XS) (o : XS) (hf : fMX12_gain_0_155 (kn K) x1 x3 σ = some o) (H : Heap) (locs : List Loc) (ls : Array Slot) (hl : lv_has ls 5 [(0, .ref (ka K 0)), (1, .int x1), (3, .int x3)]) (hW : gw_ (kD K) vwCl (tyM K) (wM K) A s σ H locs) : W p l e rMX12_gain_0 s m args below meth c H locs 0 0 (MQ below (gw_Qv (kD K) vwCl (tyM K) (wM K) A o) args s rMX12_gain_0.cells rMX12_gain_0.slots A) (F0 m 155 ls []) := by
  have hx := F.1
  have hb := F.2.1
  have hml := F.2.2.2.1
  have hown := F.2.2.2.2.1
  have hts := F.2.2.2.2.2.1
  have hG : ∀ x ∈ gT, x.before args s = true := fun x h => hts x (List.mem_cons_of_mem _ h)
  unfold fMX12_gain_0_155 at hf
  refine lv_aload_n hx hb dX12_gain_155 rfl (lv_at hl 0 rfl) ?_
  refine gw_get (v := .ref (ka K 12)) F inc_X12 hW 0 10 21 (aM_0 K σ) rfl (by decide) (hG _ q_6_133) (fun _ h9 => h9) rfl dX12_gain_156 ?_
  refine lv_iload_n hx hb dX12_gain_159 rfl (lv_at hl 1 rfl) ?_
  refine lv_iload_n hx hb dX12_gain_160 rfl (lv_at hl 2 rfl) ?_
  rcases Decidable.em (x1 < 0 ∨ 2100 ≤ x1.toNatClampNeg) with c11 | c11
  · replace hf := (if_pos c11).symm.trans hf
    exact absurd hf (by simp)
  · replace hf := (if_neg c11).symm.trans hf
    refine gw_iast (σ' := (stA σ 11 x1.toNatClampNeg x3)) F hW 12 11 (aM_12 K σ) rfl c11 dX12_gain_161 (sAM_11 _ _ _) (fun H locs hW => ?_)
    refine lv_aload_n hx hb dX12_gain_162 rfl (lv_at hl 0 rfl) ?_
    refine gw_get (v := .ref (ka K 10)) F inc_X12 hW 0 10 19 (aM_0 K (stA σ 11 x1.toNatClampNeg x3)) rfl (by decide) (hG _ q_6_131) (fun _ h9 => h9) rfl dX12_gain_163 ?_
    refine lv_iload_n hx hb dX12_gain_166 rfl (lv_at hl 1 rfl) ?_
    refine lv_dup2_11 hx hb dX12_gain_167 rfl rfl ?_
    rcases Decidable.em (x1 < 0 ∨ 2100 ≤ x1.toNatClampNeg) with c12 | c12
    · replace hf := (if_pos c12).symm.trans hf
      exact absurd hf (by simp)
    · replace hf := (if_neg c12).symm.trans hf
      refine gw_iald F hW 10 9 (aM_10 K (stA σ 11 x1.toNatClampNeg x3)) rfl c12 dX12_gain_168 ?_
      refine lv_iconst (v := (1 : Int32)) hx hb dX12_gain_169 (by decide) ?_
      refine lv_iadd hx hb dX12_gain_170 ?_
      rcases Decidable.em (x1 < 0 ∨ 2100 ≤ x1.toNatClampNeg) with c13 | c13
      · replace hf := (if_pos c13).symm.trans hf
        exact absurd hf (by simp)
      · replace hf := (if_neg c13).symm.trans hf
        refine gw_iast (σ' := (stA (stA σ 11 x1.toNatClampNeg x3) 9 x1.toNatClampNeg (((stA σ 11 x1.toNatClampNeg x3).2.1 9 x1.toNatClampNeg) + (1 : Int32)))) F hW 10 9 (aM_10 K (stA σ 11 x1.toNatClampNeg x3)) rfl c13 dX12_gain_171 (sAM_9 _ _ _) (fun H locs hW => ?_)
        exact gw_retv F hW hf dX12_gain_172
set_option maxHeartbeats 4000000 in
set_option maxRecDepth 100000 in
theorem wMX12_gain_0_124 {p : Program} {l : Launch} {e : Env} {s : State} {m : MethodId} {args : Array Value} {below : List Frame} {meth : Method} {c : Code} {A : Nat → Prop} {K : KX} (F : fx_ p s m args meth c cX12_gain 5 none RX12 wsX12_gain) (x1 : Int32) (x2 : Int32) (σ : XS) (o : XS) (hf : fMX12_gain_0_124 (kn K) x1 x2 σ = some o) (H : Heap) (locs : List Loc) (ls : Array Slot) (hl : lv_has ls 5 [(0, .ref (ka K 0)), (1, .int x1), (2, .int x2)]) (hW : gw_ (kD K) vwCl (tyM K) (wM K) A s σ H locs) : W p l e rMX12_gain_0 s m args below meth c H locs 0 0 (MQ below (gw_Qv (kD K) vwCl (tyM K) (wM K) A o) args s rMX12_gain_0.cells rMX12_gain_0.slots A) (F0 m 124 ls []) := by
  have hx := F.1
  have hb := F.2.1
  have hml := F.2.2.2.1
  have hown := F.2.2.2.2.1
  have hts := F.2.2.2.2.2.1
  have hG : ∀ x ∈ gT, x.before args s = true := fun x h => hts x (List.mem_cons_of_mem _ h)
  unfold fMX12_gain_0_124 at hf
  refine lv_aload_n hx hb dX12_gain_124 rfl (lv_at hl 0 rfl) ?_
  obtain ⟨o5, h6, hf⟩ := gw_bind hf
  refine gw_Vi (As := []) (mc' := 0) (ms' := 0) F hW (mMX12_take_0 h6) (cwV 0 hts (gT_V q_7_9 q_7_11 qp_39 q_1_12 q_7_12) rfl rfl rfl hdX12_take ⟨Nat.le_of_ble_eq_true rfl, Nat.le_of_ble_eq_true rfl⟩) 0 10 (aM_0 K σ) rfl rfl hl.1 rfl (Nat.le_of_ble_eq_true rfl) dX12_gain_125 ⟨Nat.le_of_ble_eq_true rfl, Nat.le_of_ble_eq_true rfl⟩ rfl rfl (fun H locs hW => ?_)
  refine lv_istore_n (lv' := [(3, .int o5.1), (0, .ref (ka K 0)), (1, .int x1), (2, .int x2)]) hx hb dX12_gain_128 rfl hl (by decide) rfl (fun ls hl => ?_)
  refine lv_iload_n hx hb dX12_gain_129 rfl (lv_at hl 3 rfl) ?_
  refine lv_if_ne (tgt := 143) hx hb dX12_gain_130 (by decide) (fun c8 => ?_) (fun c8 => ?_)
  · replace hf := (if_neg c8).symm.trans hf
    refine lv_aload_n hx hb dX12_gain_143 rfl (lv_at hl 1 rfl) ?_
    refine gw_get (v := .ref (ka K 6)) F inc_X12 hW 0 10 15 (aM_0 K o5.2) rfl (by decide) (hG _ q_6_127) (fun _ h9 => h9) rfl dX12_gain_144 ?_
    refine lv_aload_n hx hb dX12_gain_147 rfl (lv_at hl 1 rfl) ?_
    refine gw_get (v := .ref (ka K 12)) F inc_X12 hW 0 10 21 (aM_0 K o5.2) rfl (by decide) (hG _ q_6_133) (fun _ h9 => h9) rfl dX12_gain_148 ?_
    refine lv_iload_n hx hb dX12_gain_151 rfl (lv_at hl 2 rfl) ?_
    rcases Decidable.em (x1 < 0 ∨ 2100 ≤ x1.toNatClampNeg) with c9 | c9
    · replace hf := (if_pos c9).symm.trans hf
      exact absurd hf (by simp)
    · replace hf := (if_neg c9).symm.trans hf
      refine gw_iald F hW 12 11 (aM_12 K o5.2) rfl c9 dX12_gain_152 ?_
      refine lv_iload_n hx hb dX12_gain_153 rfl (lv_at hl 0 rfl) ?_
      rcases Decidable.em ((o5.2.2.1 11 x1.toNatClampNeg) < 0 ∨ 512 ≤ (o5.2.2.1 11 x1.toNatClampNeg).toNatClampNeg) with c10 | c10
      · replace hf := (if_pos c10).symm.trans hf
        exact absurd hf (by simp)
      · replace hf := (if_neg c10).symm.trans hf
        refine gw_iast (σ' := (stA o5.2 5 (o5.2.2.1 11 x1.toNatClampNeg).toNatClampNeg o5.1)) F hW 6 5 (aM_6 K o5.2) rfl c10 dX12_gain_154 (sAM_5 _ _ _) (fun H locs hW => ?_)
        exact wMX12_gain_0_155 F x1 o5.1 _ _ hf _ _ _ (lv_sub hl [1, 2, 0] rfl) hW
  · replace hf := (if_pos c8).symm.trans hf
    refine lv_aload_n hx hb dX12_gain_133 rfl (lv_at hl 1 rfl) ?_
    refine gw_get (v := .ref (ka K 11)) F inc_X12 hW 0 10 20 (aM_0 K o5.2) rfl (by decide) (hG _ q_6_132) (fun _ h9 => h9) rfl dX12_gain_134 ?_
    refine lv_iload_n hx hb dX12_gain_137 rfl (lv_at hl 2 rfl) ?_
    refine lv_iload_n hx hb dX12_gain_138 rfl (lv_at hl 0 rfl) ?_
    rcases Decidable.em (x1 < 0 ∨ 2100 ≤ x1.toNatClampNeg) with c14 | c14
    · replace hf := (if_pos c14).symm.trans hf
      exact absurd hf (by simp)
    · replace hf := (if_neg c14).symm.trans hf
      refine gw_iast (σ' := (stA o5.2 10 x1.toNatClampNeg o5.1)) F hW 11 10 (aM_11 K o5.2) rfl c14 dX12_gain_139 (sAM_10 _ _ _) (fun H locs hW => ?_)
      refine lv_goto (tgt := 155) hx hb dX12_gain_140 (by decide) ?_
      exact wMX12_gain_0_155 F x1 o5.1 _ _ hf _ _ _ (lv_sub hl [1, 2, 0] rfl) hW
set_option maxHeartbeats 4000000 in
set_option maxRecDepth 100000 in
theorem wMX12_gain_0_111 {p : Program} {l : Launch} {e : Env} {s : State} {m : MethodId} {args : Array Value} {below : List Frame} {meth : Method} {c : Code} {A : Nat → Prop} {K : KX} (F : fx_ p s m args meth c cX12_gain 5 none RX12 wsX12_gain) (x1 : Int32) (x2 : Int32) (x3 : Int32) (x4 : Int32) (σ : XS) (o : XS) (hf : fMX12_gain_0_111 (kn K) x1 x2 x3 x4 σ = some o) (H : Heap) (locs : List Loc) (ls : Array Slot) (hl : lv_has ls 5 [(0, .ref (ka K 0)), (1, .int x1), (2, .int x2), (3, .int x3), (4, .int x4)]) (hW : gw_ (kD K) vwCl (tyM K) (wM K) A s σ H locs) : W p l e rMX12_gain_0 s m args below meth c H locs 0 0 (MQ below (gw_Qv (kD K) vwCl (tyM K) (wM K) A o) args s rMX12_gain_0.cells rMX12_gain_0.slots A) (F0 m 111 ls []) := by
  have hx := F.1
  have hb := F.2.1
  have hml := F.2.2.2.1
  have hown := F.2.2.2.2.1
  have hts := F.2.2.2.2.2.1
  have hG : ∀ x ∈ gT, x.before args s = true := fun x h => hts x (List.mem_cons_of_mem _ h)
  unfold fMX12_gain_0_111 at hf
  refine lv_iload hx hb dX12_gain_111 (lv_at hl 4 rfl) ?_
  refine lv_if_eq (tgt := 124) hx hb dX12_gain_113 (by decide) (fun c22 => ?_) (fun c22 => ?_)
  · replace hf := (if_pos c22).symm.trans hf
    exact wMX12_gain_0_124 F x1 x2 _ _ hf _ _ _ (lv_sub hl [0, 1, 2] rfl) hW
  · replace hf := (if_neg c22).symm.trans hf
    refine lv_aload_n hx hb dX12_gain_116 rfl (lv_at hl 0 rfl) ?_
    refine gw_get (v := .ref (ka K 6)) F inc_X12 hW 0 10 15 (aM_0 K σ) rfl (by decide) (hG _ q_6_127) (fun _ h9 => h9) rfl dX12_gain_117 ?_
    refine lv_iload hx hb dX12_gain_120 (lv_at hl 4 rfl) ?_
    refine lv_iload_n hx hb dX12_gain_122 rfl (lv_at hl 3 rfl) ?_
    rcases Decidable.em (x4 < 0 ∨ 512 ≤ x4.toNatClampNeg) with c23 | c23
    · replace hf := (if_pos c23).symm.trans hf
      exact absurd hf (by simp)
    · replace hf := (if_neg c23).symm.trans hf
      refine gw_iast (σ' := (stA σ 5 x4.toNatClampNeg x3)) F hW 6 5 (aM_6 K σ) rfl c23 dX12_gain_123 (sAM_5 _ _ _) (fun H locs hW => ?_)
      exact wMX12_gain_0_124 F x1 x2 _ _ hf _ _ _ (lv_sub hl [0, 1, 2] rfl) hW
set_option maxHeartbeats 4000000 in
set_option maxRecDepth 100000 in
theorem wMX12_gain_0_84 {p : Program} {l : Launch} {e : Env} {s : State} {m : MethodId} {args : Array Value} {below : List Frame} {meth : Method} {c : Code} {A : Nat → Prop} {K : KX} (F : fx_ p s m args meth c cX12_gain 5 none RX12 wsX12_gain) {k84 : (Int32 × Int32 × Int32 × Int32 × XS) → Option XS} (hk84 : ∀ t o, k84 t = some o → PMX12_gain_0_84 p l e s m args below meth c A K t o) (x1 : Int32) (x2 : Int32) (x3 : Int32) (x4 : Int32) (σ : XS) (o : XS) (hf : fMX12_gain_0_84 (kn K) k84 x1 x2 x3 x4 σ = some o) (H : Heap) (locs : List Loc) (ls : Array Slot) (hl : lv_has ls 5 [(0, .ref (ka K 0)), (1, .int x1), (2, .int x2), (3, .int x3), (4, .int x4)]) (hW : gw_ (kD K) vwCl (tyM K) (wM K) A s σ H locs) : W p l e rMX12_gain_0 s m args below meth c H locs 0 0 (MQ below (gw_Qv (kD K) vwCl (tyM K) (wM K) A o) args s rMX12_gain_0.cells rMX12_gain_0.slots A) (F0 m 84 ls []) := by
  have hx := F.1
  have hb := F.2.1
  have hml := F.2.2.2.1
  have hown := F.2.2.2.2.1
  have hts := F.2.2.2.2.2.1
  have hG : ∀ x ∈ gT, x.before args s = true := fun x h => hts x (List.mem_cons_of_mem _ h)
  unfold fMX12_gain_0_84 at hf
  refine lv_iload hx hb dX12_gain_84 (lv_at hl 4 rfl) ?_
  refine lv_if_eq (tgt := 111) hx hb dX12_gain_86 (by decide) (fun c21 => ?_) (fun c21 => ?_)
  · replace hf := (if_pos c21).symm.trans hf
    exact wMX12_gain_0_111 F x1 x2 x3 x4 _ _ hf _ _ _ (lv_sub hl [0, 1, 2, 3, 4] rfl) hW
  · replace hf := (if_neg c21).symm.trans hf
    refine lv_aload_n hx hb dX12_gain_89 rfl (lv_at hl 0 rfl) ?_
    refine gw_get (v := .ref (ka K 6)) F inc_X12 hW 0 10 15 (aM_0 K σ) rfl (by decide) (hG _ q_6_127) (fun _ h9 => h9) rfl dX12_gain_90 ?_
    refine lv_iload hx hb dX12_gain_93 (lv_at hl 4 rfl) ?_
    rcases Decidable.em (x4 < 0 ∨ 512 ≤ x4.toNatClampNeg) with c24 | c24
    · replace hf := (if_pos c24).symm.trans hf
      exact absurd hf (by simp)
    · replace hf := (if_neg c24).symm.trans hf
      refine gw_iald F hW 6 5 (aM_6 K σ) rfl c24 dX12_gain_95 ?_
      refine lv_if_eq (tgt := 111) hx hb dX12_gain_96 (by decide) (fun c25 => ?_) (fun c25 => ?_)
      · replace hf := (if_pos c25).symm.trans hf
        exact wMX12_gain_0_111 F x1 x2 x3 x4 _ _ hf _ _ _ (lv_sub hl [0, 1, 2, 3, 4] rfl) hW
      · replace hf := (if_neg c25).symm.trans hf
        refine lv_aload_n hx hb dX12_gain_99 rfl (lv_at hl 0 rfl) ?_
        refine gw_get (v := .ref (ka K 6)) F inc_X12 hW 0 10 15 (aM_0 K σ) rfl (by decide) (hG _ q_6_127) (fun _ h9 => h9) rfl dX12_gain_100 ?_
        refine lv_iload hx hb dX12_gain_103 (lv_at hl 4 rfl) ?_
        rcases Decidable.em (x4 < 0 ∨ 512 ≤ x4.toNatClampNeg) with c26 | c26
        · replace hf := (if_pos c26).symm.trans hf
          exact absurd hf (by simp)
        · replace hf := (if_neg c26).symm.trans hf
          refine gw_iald F hW 6 5 (aM_6 K σ) rfl c26 dX12_gain_105 ?_
          refine lv_istore (lv' := [(4, .int (σ.2.1 5 x4.toNatClampNeg)), (0, .ref (ka K 0)), (1, .int x1), (2, .int x2), (3, .int x3)]) hx hb dX12_gain_106 hl (by decide) rfl (fun ls hl => ?_)
          refine lv_goto (tgt := 84) hx hb dX12_gain_108 (by decide) ?_
          exact hk84 _ _ hf _ _ _ (lv_sub hl [1, 2, 3, 4, 0] rfl) hW
set_option maxHeartbeats 4000000 in
set_option maxRecDepth 100000 in
theorem wMX12_gain_0_40 {p : Program} {l : Launch} {e : Env} {s : State} {m : MethodId} {args : Array Value} {below : List Frame} {meth : Method} {c : Code} {A : Nat → Prop} {K : KX} (F : fx_ p s m args meth c cX12_gain 5 none RX12 wsX12_gain) (x1 : Int32) (x2 : Int32) (σ : XS) (o : XS) (hf : fMX12_gain_0_40 (kn K) x1 x2 σ = some o) (H : Heap) (locs : List Loc) (ls : Array Slot) (hl : lv_has ls 5 [(0, .ref (ka K 0)), (1, .int x1), (2, .int x2)]) (hW : gw_ (kD K) vwCl (tyM K) (wM K) A s σ H locs) : W p l e rMX12_gain_0 s m args below meth c H locs 0 0 (MQ below (gw_Qv (kD K) vwCl (tyM K) (wM K) A o) args s rMX12_gain_0.cells rMX12_gain_0.slots A) (F0 m 40 ls []) := by
  have hx := F.1
  have hb := F.2.1
  have hml := F.2.2.2.1
  have hown := F.2.2.2.2.1
  have hts := F.2.2.2.2.2.1
  have hG : ∀ x ∈ gT, x.before args s = true := fun x h => hts x (List.mem_cons_of_mem _ h)
  unfold fMX12_gain_0_40 at hf
  refine lv_iload_n hx hb dX12_gain_40 rfl (lv_at hl 2 rfl) ?_
  refine lv_sipush (v := (268 : Int32)) hx hb dX12_gain_41 (by decide) ?_
  refine lv_icmp_lt (tgt := 124) hx hb dX12_gain_44 (by decide) (fun c4 => ?_) (fun c4 => ?_)
  · replace hf := (if_pos c4).symm.trans hf
    exact wMX12_gain_0_124 F x1 x2 _ _ hf _ _ _ (lv_sub hl [0, 1, 2] rfl) hW
  · replace hf := (if_neg c4).symm.trans hf
    refine lv_iload_n hx hb dX12_gain_47 rfl (lv_at hl 2 rfl) ?_
    refine lv_sipush (v := (268 : Int32)) hx hb dX12_gain_48 (by decide) ?_
    refine lv_isub hx hb dX12_gain_51 ?_
    refine lv_sipush (v := (256 : Int32)) hx hb dX12_gain_52 (by decide) ?_
    refine lv_irem hx hb dX12_gain_55 (by decide) ?_
    refine lv_if_ne (tgt := 124) hx hb dX12_gain_56 (by decide) (fun c15 => ?_) (fun c15 => ?_)
    · replace hf := (if_neg c15).symm.trans hf
      exact wMX12_gain_0_124 F x1 x2 _ _ hf _ _ _ (lv_sub hl [0, 1, 2] rfl) hW
    · replace hf := (if_pos c15).symm.trans hf
      refine lv_aload_n hx hb dX12_gain_59 rfl (lv_at hl 0 rfl) ?_
      obtain ⟨o16, h17, hf⟩ := gw_bind hf
      refine gw_Vi (As := []) (mc' := 0) (ms' := 0) F hW (mMX12_take_0 h17) (cwV 0 hts (gT_V q_7_9 q_7_11 qp_39 q_1_12 q_7_12) rfl rfl rfl hdX12_take ⟨Nat.le_of_ble_eq_true rfl, Nat.le_of_ble_eq_true rfl⟩) 0 10 (aM_0 K σ) rfl rfl hl.1 rfl (Nat.le_of_ble_eq_true rfl) dX12_gain_60 ⟨Nat.le_of_ble_eq_true rfl, Nat.le_of_ble_eq_true rfl⟩ rfl rfl (fun H locs hW => ?_)
      refine lv_istore_n (lv' := [(3, .int o16.1), (0, .ref (ka K 0)), (1, .int x1), (2, .int x2)]) hx hb dX12_gain_63 rfl hl (by decide) rfl (fun ls hl => ?_)
      refine lv_aload_n hx hb dX12_gain_64 rfl (lv_at hl 1 rfl) ?_
      refine gw_get (v := .ref (ka K 15)) F inc_X12 hW 0 10 24 (aM_0 K o16.2) rfl (by decide) (hG _ q_6_136) (fun _ h9 => h9) rfl dX12_gain_65 ?_
      refine lv_iload_n hx hb dX12_gain_68 rfl (lv_at hl 2 rfl) ?_
      rcases Decidable.em (x1 < 0 ∨ 2100 ≤ x1.toNatClampNeg) with c19 | c19
      · replace hf := (if_pos c19).symm.trans hf
        exact absurd hf (by simp)
      · replace hf := (if_neg c19).symm.trans hf
        refine gw_iald F hW 15 14 (aM_15 K o16.2) rfl c19 dX12_gain_69 ?_
        refine lv_istore (lv' := [(4, .int (o16.2.2.1 14 x1.toNatClampNeg)), (3, .int o16.1), (0, .ref (ka K 0)), (1, .int x1), (2, .int x2)]) hx hb dX12_gain_70 hl (by decide) rfl (fun ls hl => ?_)
        refine lv_iload hx hb dX12_gain_72 (lv_at hl 0 rfl) ?_
        refine lv_if_ne (tgt := 84) hx hb dX12_gain_74 (by decide) (fun c20 => ?_) (fun c20 => ?_)
        · replace hf := (if_neg c20).symm.trans hf
          exact lfix_ind (P := PMX12_gain_0_84 p l e s m args below meth c A K) (fun k84 hk84 t o hf => wMX12_gain_0_84 F hk84 t.1 t.2.1 t.2.2.1 t.2.2.2.1 t.2.2.2.2 o hf) FU _ _ hf _ _ _ (lv_sub hl [2, 3, 4, 1, 0] rfl) hW
        · replace hf := (if_pos c20).symm.trans hf
          refine lv_aload_n hx hb dX12_gain_77 rfl (lv_at hl 2 rfl) ?_
          refine gw_get (v := .ref (ka K 15)) F inc_X12 hW 0 10 24 (aM_0 K o16.2) rfl (by decide) (hG _ q_6_136) (fun _ h9 => h9) rfl dX12_gain_78 ?_
          refine lv_iload_n hx hb dX12_gain_81 rfl (lv_at hl 3 rfl) ?_
          refine lv_iload_n hx hb dX12_gain_82 rfl (lv_at hl 1 rfl) ?_
          rcases Decidable.em (x1 < 0 ∨ 2100 ≤ x1.toNatClampNeg) with c27 | c27
          · replace hf := (if_pos c27).symm.trans hf
            exact absurd hf (by simp)
          · replace hf := (if_neg c27).symm.trans hf
            refine gw_iast (σ' := (stA o16.2 14 x1.toNatClampNeg o16.1)) F hW 15 14 (aM_15 K o16.2) rfl c27 dX12_gain_83 (sAM_14 _ _ _) (fun H locs hW => ?_)
            exact lfix_ind (P := PMX12_gain_0_84 p l e s m args below meth c A K) (fun k84 hk84 t o hf => wMX12_gain_0_84 F hk84 t.1 t.2.1 t.2.2.1 t.2.2.2.1 t.2.2.2.2 o hf) FU _ _ hf _ _ _ (lv_sub hl [2, 3, 4, 1, 0] rfl) hW
set_option maxHeartbeats 4000000 in
set_option maxRecDepth 100000 in
theorem wMX12_gain_0_23 {p : Program} {l : Launch} {e : Env} {s : State} {m : MethodId} {args : Array Value} {below : List Frame} {meth : Method} {c : Code} {A : Nat → Prop} {K : KX} (F : fx_ p s m args meth c cX12_gain 5 none RX12 wsX12_gain) (x1 : Int32) (x2 : Int32) (σ : XS) (o : XS) (hf : fMX12_gain_0_23 (kn K) x1 x2 σ = some o) (H : Heap) (locs : List Loc) (ls : Array Slot) (hl : lv_has ls 5 [(0, .ref (ka K 0)), (1, .int x1), (2, .int x2)]) (hW : gw_ (kD K) vwCl (tyM K) (wM K) A s σ H locs) : W p l e rMX12_gain_0 s m args below meth c H locs 0 0 (MQ below (gw_Qv (kD K) vwCl (tyM K) (wM K) A o) args s rMX12_gain_0.cells rMX12_gain_0.slots A) (F0 m 23 ls []) := by
  have hx := F.1
  have hb := F.2.1
  have hml := F.2.2.2.1
  have hown := F.2.2.2.2.1
  have hts := F.2.2.2.2.2.1
  have hG : ∀ x ∈ gT, x.before args s = true := fun x h => hts x (List.mem_cons_of_mem _ h)
  unfold fMX12_gain_0_23 at hf
  refine lv_iload_n hx hb dX12_gain_23 rfl (lv_at hl 2 rfl) ?_
  refine lv_sipush (v := (268 : Int32)) hx hb dX12_gain_24 (by decide) ?_
  refine lv_icmp_ne (tgt := 40) hx hb dX12_gain_27 (by decide) (fun c3 => ?_) (fun c3 => ?_)
  · replace hf := (if_neg c3).symm.trans hf
    exact wMX12_gain_0_40 F x1 x2 _ _ hf _ _ _ (lv_sub hl [0, 1, 2] rfl) hW
  · replace hf := (if_pos c3).symm.trans hf
    refine lv_aload_n hx hb dX12_gain_30 rfl (lv_at hl 0 rfl) ?_
    refine gw_get (v := .ref (ka K 14)) F inc_X12 hW 0 10 23 (aM_0 K σ) rfl (by decide) (hG _ q_6_135) (fun _ h9 => h9) rfl dX12_gain_31 ?_
    refine lv_iload_n hx hb dX12_gain_34 rfl (lv_at hl 1 rfl) ?_
    refine lv_aload_n hx hb dX12_gain_35 rfl (lv_at hl 0 rfl) ?_
    obtain ⟨o28, h29, hf⟩ := gw_bind hf
    refine gw_Vi (As := []) (mc' := 0) (ms' := 0) F hW (mMX12_take_0 h29) (cwV 0 hts (gT_V q_7_9 q_7_11 qp_39 q_1_12 q_7_12) rfl rfl rfl hdX12_take ⟨Nat.le_of_ble_eq_true rfl, Nat.le_of_ble_eq_true rfl⟩) 0 10 (aM_0 K σ) rfl rfl hl.1 rfl (Nat.le_of_ble_eq_true rfl) dX12_gain_36 ⟨Nat.le_of_ble_eq_true rfl, Nat.le_of_ble_eq_true rfl⟩ rfl rfl (fun H locs hW => ?_)
    rcases Decidable.em (x1 < 0 ∨ 2100 ≤ x1.toNatClampNeg) with c31 | c31
    · replace hf := (if_pos c31).symm.trans hf
      exact absurd hf (by simp)
    · replace hf := (if_neg c31).symm.trans hf
      refine gw_iast (σ' := (stA o28.2 13 x1.toNatClampNeg o28.1)) F hW 14 13 (aM_14 K o28.2) rfl c31 dX12_gain_39 (sAM_13 _ _ _) (fun H locs hW => ?_)
      exact wMX12_gain_0_40 F x1 x2 _ _ hf _ _ _ (lv_sub hl [0, 1, 2] rfl) hW
set_option maxHeartbeats 4000000 in
set_option maxRecDepth 100000 in
theorem wMX12_gain_0_0 {p : Program} {l : Launch} {e : Env} {s : State} {m : MethodId} {args : Array Value} {below : List Frame} {meth : Method} {c : Code} {A : Nat → Prop} {K : KX} (F : fx_ p s m args meth c cX12_gain 5 none RX12 wsX12_gain) (x1 : Int32) (σ : XS) (o : XS) (hf : fMX12_gain_0_0 (kn K) x1 σ = some o) (H : Heap) (locs : List Loc) (ls : Array Slot) (hl : lv_has ls 5 [(0, .ref (ka K 0)), (1, .int x1)]) (hW : gw_ (kD K) vwCl (tyM K) (wM K) A s σ H locs) : W p l e rMX12_gain_0 s m args below meth c H locs 0 0 (MQ below (gw_Qv (kD K) vwCl (tyM K) (wM K) A o) args s rMX12_gain_0.cells rMX12_gain_0.slots A) (F0 m 0 ls []) := by
  have hx := F.1
  have hb := F.2.1
  have hml := F.2.2.2.1
  have hown := F.2.2.2.2.1
  have hts := F.2.2.2.2.2.1
  have hG : ∀ x ∈ gT, x.before args s = true := fun x h => hts x (List.mem_cons_of_mem _ h)
  unfold fMX12_gain_0_0 at hf
  refine lv_aload_n hx hb dX12_gain_0 rfl (lv_at hl 0 rfl) ?_
  refine gw_get (v := .ref (ka K 10)) F inc_X12 hW 0 10 19 (aM_0 K σ) rfl (by decide) (hG _ q_6_131) (fun _ h9 => h9) rfl dX12_gain_1 ?_
  refine lv_iload_n hx hb dX12_gain_4 rfl (lv_at hl 1 rfl) ?_
  rcases Decidable.em (x1 < 0 ∨ 2100 ≤ x1.toNatClampNeg) with c1 | c1
  · replace hf := (if_pos c1).symm.trans hf
    exact absurd hf (by simp)
  · replace hf := (if_neg c1).symm.trans hf
    refine gw_iald F hW 10 9 (aM_10 K σ) rfl c1 dX12_gain_5 ?_
    refine lv_istore_n (lv' := [(2, .int (σ.2.1 9 x1.toNatClampNeg)), (0, .ref (ka K 0)), (1, .int x1)]) hx hb dX12_gain_6 rfl hl (by decide) rfl (fun ls hl => ?_)
    refine lv_iload_n hx hb dX12_gain_7 rfl (lv_at hl 0 rfl) ?_
    refine lv_bipush (v := (12 : Int32)) hx hb dX12_gain_8 (by decide) ?_
    refine lv_icmp_ne (tgt := 23) hx hb dX12_gain_10 (by decide) (fun c2 => ?_) (fun c2 => ?_)
    · replace hf := (if_neg c2).symm.trans hf
      exact wMX12_gain_0_23 F x1 (σ.2.1 9 x1.toNatClampNeg) _ _ hf _ _ _ (lv_sub hl [1, 2, 0] rfl) hW
    · replace hf := (if_pos c2).symm.trans hf
      refine lv_aload_n hx hb dX12_gain_13 rfl (lv_at hl 1 rfl) ?_
      refine gw_get (v := .ref (ka K 13)) F inc_X12 hW 0 10 22 (aM_0 K σ) rfl (by decide) (hG _ q_6_134) (fun _ h9 => h9) rfl dX12_gain_14 ?_
      refine lv_iload_n hx hb dX12_gain_17 rfl (lv_at hl 2 rfl) ?_
      refine lv_aload_n hx hb dX12_gain_18 rfl (lv_at hl 1 rfl) ?_
      obtain ⟨o32, h33, hf⟩ := gw_bind hf
      refine gw_Vi (As := []) (mc' := 0) (ms' := 0) F hW (mMX12_take_0 h33) (cwV 0 hts (gT_V q_7_9 q_7_11 qp_39 q_1_12 q_7_12) rfl rfl rfl hdX12_take ⟨Nat.le_of_ble_eq_true rfl, Nat.le_of_ble_eq_true rfl⟩) 0 10 (aM_0 K σ) rfl rfl hl.1 rfl (Nat.le_of_ble_eq_true rfl) dX12_gain_19 ⟨Nat.le_of_ble_eq_true rfl, Nat.le_of_ble_eq_true rfl⟩ rfl rfl (fun H locs hW => ?_)
      rcases Decidable.em (x1 < 0 ∨ 2100 ≤ x1.toNatClampNeg) with c35 | c35
      · replace hf := (if_pos c35).symm.trans hf
        exact absurd hf (by simp)
      · replace hf := (if_neg c35).symm.trans hf
        refine gw_iast (σ' := (stA o32.2 12 x1.toNatClampNeg o32.1)) F hW 13 12 (aM_13 K o32.2) rfl c35 dX12_gain_22 (sAM_12 _ _ _) (fun H locs hW => ?_)
        exact wMX12_gain_0_23 F x1 (σ.2.1 9 x1.toNatClampNeg) _ _ hf _ _ _ (lv_sub hl [1, 2, 0] rfl) hW
set_option maxHeartbeats 4000000 in
set_option maxRecDepth 100000 in
theorem mMX12_gain_0 {l : Launch} {K : KX} {σ : XS} {x1 : Int32} {o : XS} (hf : fMX12_gain_0 (kn K) x1 σ = some o) : gw_Mv l (kD K) vwCl (tyM K) (wM K) yX12_gain wsX12_gain rMX12_gain_0 [.ref (ka K 0), .int x1] σ o := by
  intro sz
  refine gw_body (cc := cX12_gain) (maxL := 5) (yret := none) (by decide +kernel) rfl ?_ (Nat.le_of_ble_eq_true rfl)
  intro p e s m below meth c F hsz hW ls hl
  exact wMX12_gain_0_0 F x1 σ o hf s.heap [] ls hl hW
abbrev rMX12_blockOf_0 : Room := { frames := 0, cells := 0, slots := 0, locals := 0 }
def PMX12_blockOf_0_10 (p : Program) (l : Launch) (e : Env) (s : State) (m : MethodId) (args : Array Value) (below : List Frame) (meth : Method) (c : Code) (A : Nat → Prop) (K : KX) (t : (Int32 × Int32 × Int32 × XS)) (o : (Int32 × XS)) : Prop := ∀ (H : Heap) (locs : List Loc) (ls : Array Slot), lv_has ls 5 [(0, .ref (ka K 0)), (2, .int t.1), (3, .int t.2.1), (4, .int t.2.2.1)] → gw_ (kD K) vwCl (tyM K) (wM K) A s t.2.2.2 H locs → W p l e rMX12_blockOf_0 s m args below meth c H locs 0 0 (MQ below (gw_Qi (kD K) vwCl (tyM K) (wM K) A o) args s rMX12_blockOf_0.cells rMX12_blockOf_0.slots A) (F0 m 10 ls [])
set_option maxHeartbeats 4000000 in
set_option maxRecDepth 100000 in
theorem wMX12_blockOf_0_10 {p : Program} {l : Launch} {e : Env} {s : State} {m : MethodId} {args : Array Value} {below : List Frame} {meth : Method} {c : Code} {A : Nat → Prop} {K : KX} (F : fx_ p s m args meth c cX12_blockOf 5 (some .int) RX12 wsX12_blockOf) {k10 : (Int32 × Int32 × Int32 × XS) → Option (Int32 × XS)} (hk10 : ∀ t o, k10 t = some o → PMX12_blockOf_0_10 p l e s m args below meth c A K t o) (x2 : Int32) (x3 : Int32) (x4 : Int32) (σ : XS) (o : (Int32 × XS)) (hf : fMX12_blockOf_0_10 (kn K) k10 x2 x3 x4 σ = some o) (H : Heap) (locs : List Loc) (ls : Array Slot) (hl : lv_has ls 5 [(0, .ref (ka K 0)), (2, .int x2), (3, .int x3), (4, .int x4)]) (hW : gw_ (kD K) vwCl (tyM K) (wM K) A s σ H locs) : W p l e rMX12_blockOf_0 s m args below meth c H locs 0 0 (MQ below (gw_Qi (kD K) vwCl (tyM K) (wM K) A o) args s rMX12_blockOf_0.cells rMX12_blockOf_0.slots A) (F0 m 10 ls []) := by
  have hx := F.1
  have hb := F.2.1
  have hml := F.2.2.2.1
  have hown := F.2.2.2.2.1
  have hts := F.2.2.2.2.2.1
  have hG : ∀ x ∈ gT, x.before args s = true := fun x h => hts x (List.mem_cons_of_mem _ h)
  unfold fMX12_blockOf_0_10 at hf
  refine lv_iload hx hb dX12_blockOf_10 (lv_at hl 3 rfl) ?_
  refine lv_iload_n hx hb dX12_blockOf_12 rfl (lv_at hl 1 rfl) ?_
  refine lv_icmp_ge (tgt := 29) hx hb dX12_blockOf_13 (by decide) (fun c2 => ?_) (fun c2 => ?_)
  · replace hf := (if_pos c2).symm.trans hf
    refine lv_iload_n hx hb dX12_blockOf_29 rfl (lv_at hl 2 rfl) ?_
    exact gw_reti F hW hf dX12_blockOf_30
  · replace hf := (if_neg c2).symm.trans hf
    refine lv_aload_n hx hb dX12_blockOf_16 rfl (lv_at hl 0 rfl) ?_
    refine gw_get (v := .ref (ka K 6)) F inc_X12 hW 0 10 15 (aM_0 K σ) rfl (by decide) (hG _ q_6_127) (fun _ h9 => h9) rfl dX12_blockOf_17 ?_
    refine lv_iload_n hx hb dX12_blockOf_20 rfl (lv_at hl 2 rfl) ?_
    rcases Decidable.em (x3 < 0 ∨ 512 ≤ x3.toNatClampNeg) with c3 | c3
    · replace hf := (if_pos c3).symm.trans hf
      exact absurd hf (by simp)
    · replace hf := (if_neg c3).symm.trans hf
      refine gw_iald F hW 6 5 (aM_6 K σ) rfl c3 dX12_blockOf_21 ?_
      refine lv_istore_n (lv' := [(3, .int (σ.2.1 5 x3.toNatClampNeg)), (0, .ref (ka K 0)), (2, .int x2), (4, .int x4)]) hx hb dX12_blockOf_22 rfl hl (by decide) rfl (fun ls hl => ?_)
      refine lv_iinc (v := (x4 + (1 : Int32))) (lv' := [(4, .int (x4 + (1 : Int32))), (3, .int (σ.2.1 5 x3.toNatClampNeg)), (0, .ref (ka K 0)), (2, .int x2)]) hx hb dX12_blockOf_23 hl (k := 3) rfl rfl (by decide) rfl (fun ls hl => ?_)
      refine lv_goto (tgt := 10) hx hb dX12_blockOf_26 (by decide) ?_
      exact hk10 _ _ hf _ _ _ (lv_sub hl [2, 3, 1, 0] rfl) hW
set_option maxHeartbeats 4000000 in
set_option maxRecDepth 100000 in
theorem wMX12_blockOf_0_0 {p : Program} {l : Launch} {e : Env} {s : State} {m : MethodId} {args : Array Value} {below : List Frame} {meth : Method} {c : Code} {A : Nat → Prop} {K : KX} (F : fx_ p s m args meth c cX12_blockOf 5 (some .int) RX12 wsX12_blockOf) (x1 : Int32) (x2 : Int32) (σ : XS) (o : (Int32 × XS)) (hf : fMX12_blockOf_0_0 (kn K) x1 x2 σ = some o) (H : Heap) (locs : List Loc) (ls : Array Slot) (hl : lv_has ls 5 [(0, .ref (ka K 0)), (1, .int x1), (2, .int x2)]) (hW : gw_ (kD K) vwCl (tyM K) (wM K) A s σ H locs) : W p l e rMX12_blockOf_0 s m args below meth c H locs 0 0 (MQ below (gw_Qi (kD K) vwCl (tyM K) (wM K) A o) args s rMX12_blockOf_0.cells rMX12_blockOf_0.slots A) (F0 m 0 ls []) := by
  have hx := F.1
  have hb := F.2.1
  have hml := F.2.2.2.1
  have hown := F.2.2.2.2.1
  have hts := F.2.2.2.2.2.1
  have hG : ∀ x ∈ gT, x.before args s = true := fun x h => hts x (List.mem_cons_of_mem _ h)
  unfold fMX12_blockOf_0_0 at hf
  refine lv_aload_n hx hb dX12_blockOf_0 rfl (lv_at hl 0 rfl) ?_
  refine gw_get (v := .ref (ka K 11)) F inc_X12 hW 0 10 20 (aM_0 K σ) rfl (by decide) (hG _ q_6_132) (fun _ h9 => h9) rfl dX12_blockOf_1 ?_
  refine lv_iload_n hx hb dX12_blockOf_4 rfl (lv_at hl 1 rfl) ?_
  rcases Decidable.em (x1 < 0 ∨ 2100 ≤ x1.toNatClampNeg) with c1 | c1
  · replace hf := (if_pos c1).symm.trans hf
    exact absurd hf (by simp)
  · replace hf := (if_neg c1).symm.trans hf
    refine gw_iald F hW 11 10 (aM_11 K σ) rfl c1 dX12_blockOf_5 ?_
    refine lv_istore_n (lv' := [(3, .int (σ.2.1 10 x1.toNatClampNeg)), (0, .ref (ka K 0)), (1, .int x1), (2, .int x2)]) hx hb dX12_blockOf_6 rfl hl (by decide) rfl (fun ls hl => ?_)
    refine lv_iconst (v := (0 : Int32)) hx hb dX12_blockOf_7 (by decide) ?_
    refine lv_istore (lv' := [(4, .int (0 : Int32)), (3, .int (σ.2.1 10 x1.toNatClampNeg)), (0, .ref (ka K 0)), (1, .int x1), (2, .int x2)]) hx hb dX12_blockOf_8 hl (by decide) rfl (fun ls hl => ?_)
    exact lfix_ind (P := PMX12_blockOf_0_10 p l e s m args below meth c A K) (fun k10 hk10 t o hf => wMX12_blockOf_0_10 F hk10 t.1 t.2.1 t.2.2.1 t.2.2.2 o hf) FU _ _ hf _ _ _ (lv_sub hl [2, 4, 1, 0] rfl) hW
set_option maxHeartbeats 4000000 in
set_option maxRecDepth 100000 in
theorem mMX12_blockOf_0 {l : Launch} {K : KX} {σ : XS} {x1 : Int32} {x2 : Int32} {o : (Int32 × XS)} (hf : fMX12_blockOf_0 (kn K) x1 x2 σ = some o) : gw_Mi l (kD K) vwCl (tyM K) (wM K) yX12_blockOf wsX12_blockOf rMX12_blockOf_0 [.ref (ka K 0), .int x1, .int x2] σ o := by
  intro sz
  refine gw_body (cc := cX12_blockOf) (maxL := 5) (yret := some .int) (by decide +kernel) rfl ?_ (Nat.le_of_ble_eq_true rfl)
  intro p e s m below meth c F hsz hW ls hl
  exact wMX12_blockOf_0_0 F x1 x2 σ o hf s.heap [] ls hl hW
abbrev rMX12_keep_0 : Room := { frames := 1, cells := 0, slots := 0, locals := 21 }
def PMX12_keep_0_100 (p : Program) (l : Launch) (e : Env) (s : State) (m : MethodId) (args : Array Value) (below : List Frame) (meth : Method) (c : Code) (A : Nat → Prop) (K : KX) (t : (Int32 × Int32 × Int32 × Int32 × Int32 × Int32 × XS)) (o : XS) : Prop := ∀ (H : Heap) (locs : List Loc) (ls : Array Slot), lv_has ls 8 [(0, .ref (ka K 0)), (1, .int t.1), (2, .int t.2.1), (4, .int t.2.2.1), (5, .int t.2.2.2.1), (6, .int t.2.2.2.2.1), (7, .int t.2.2.2.2.2.1)] → gw_ (kD K) vwCl (tyM K) (wM K) A s t.2.2.2.2.2.2 H locs → W p l e rMX12_keep_0 s m args below meth c H locs 0 0 (MQ below (gw_Qv (kD K) vwCl (tyM K) (wM K) A o) args s rMX12_keep_0.cells rMX12_keep_0.slots A) (F0 m 100 ls [])
def PMX12_keep_0_10 (p : Program) (l : Launch) (e : Env) (s : State) (m : MethodId) (args : Array Value) (below : List Frame) (meth : Method) (c : Code) (A : Nat → Prop) (K : KX) (t : (Int32 × Int32 × Int32 × Int32 × XS)) (o : XS) : Prop := ∀ (H : Heap) (locs : List Loc) (ls : Array Slot), lv_has ls 8 [(0, .ref (ka K 0)), (1, .int t.1), (2, .int t.2.1), (3, .int t.2.2.1), (4, .int t.2.2.2.1)] → gw_ (kD K) vwCl (tyM K) (wM K) A s t.2.2.2.2 H locs → W p l e rMX12_keep_0 s m args below meth c H locs 0 0 (MQ below (gw_Qv (kD K) vwCl (tyM K) (wM K) A o) args s rMX12_keep_0.cells rMX12_keep_0.slots A) (F0 m 10 ls [])
set_option maxHeartbeats 4000000 in
set_option maxRecDepth 100000 in
theorem wMX12_keep_0_287 {p : Program} {l : Launch} {e : Env} {s : State} {m : MethodId} {args : Array Value} {below : List Frame} {meth : Method} {c : Code} {A : Nat → Prop} {K : KX} (F : fx_ p s m args meth c cX12_keep 8 none RX12 wsX12_keep) (x1 : Int32) (x2 : Int32) (σ : XS) (o : XS) (hf : fMX12_keep_0_287 (kn K) x1 x2 σ = some o) (H : Heap) (locs : List Loc) (ls : Array Slot) (hl : lv_has ls 8 [(0, .ref (ka K 0)), (1, .int x1), (2, .int x2)]) (hW : gw_ (kD K) vwCl (tyM K) (wM K) A s σ H locs) : W p l e rMX12_keep_0 s m args below meth c H locs 0 0 (MQ below (gw_Qv (kD K) vwCl (tyM K) (wM K) A o) args s rMX12_keep_0.cells rMX12_keep_0.slots A) (F0 m 287 ls []) := by
  have hx := F.1
  have hb := F.2.1
  have hml := F.2.2.2.1
  have hown := F.2.2.2.2.1
  have hts := F.2.2.2.2.2.1
  have hG : ∀ x ∈ gT, x.before args s = true := fun x h => hts x (List.mem_cons_of_mem _ h)
  unfold fMX12_keep_0_287 at hf
  refine lv_aload_n hx hb dX12_keep_287 rfl (lv_at hl 0 rfl) ?_
  refine gw_get (v := .ref (ka K 10)) F inc_X12 hW 0 10 19 (aM_0 K σ) rfl (by decide) (hG _ q_6_131) (fun _ h9 => h9) rfl dX12_keep_288 ?_
  refine lv_iload_n hx hb dX12_keep_291 rfl (lv_at hl 1 rfl) ?_
  refine lv_iload_n hx hb dX12_keep_292 rfl (lv_at hl 2 rfl) ?_
  rcases Decidable.em (x1 < 0 ∨ 2100 ≤ x1.toNatClampNeg) with c17 | c17
  · replace hf := (if_pos c17).symm.trans hf
    exact absurd hf (by simp)
  · replace hf := (if_neg c17).symm.trans hf
    refine gw_iast (σ' := (stA σ 9 x1.toNatClampNeg x2)) F hW 10 9 (aM_10 K σ) rfl c17 dX12_keep_293 (sAM_9 _ _ _) (fun H locs hW => ?_)
    exact gw_retv F hW hf dX12_keep_294
set_option maxHeartbeats 4000000 in
set_option maxRecDepth 100000 in
theorem wMX12_keep_0_270 {p : Program} {l : Launch} {e : Env} {s : State} {m : MethodId} {args : Array Value} {below : List Frame} {meth : Method} {c : Code} {A : Nat → Prop} {K : KX} (F : fx_ p s m args meth c cX12_keep 8 none RX12 wsX12_keep) (x1 : Int32) (x2 : Int32) (y0 : Int32) (y1 : Int32) (σ : XS) (o : XS) (hf : fMX12_keep_0_270 (kn K) x1 x2 y0 y1 σ = some o) (H : Heap) (locs : List Loc) (ls : Array Slot) (hl : lv_has ls 8 [(0, .ref (ka K 0)), (1, .int x1), (2, .int x2)]) (hW : gw_ (kD K) vwCl (tyM K) (wM K) A s σ H locs) : W p l e rMX12_keep_0 s m args below meth c H locs 0 0 (MQ below (gw_Qv (kD K) vwCl (tyM K) (wM K) A o) args s rMX12_keep_0.cells rMX12_keep_0.slots A) (F0 m 270 ls [.int y0, .int y1, .ref (ka K 11)]) := by
  have hx := F.1
  have hb := F.2.1
  have hml := F.2.2.2.1
  have hown := F.2.2.2.2.1
  have hts := F.2.2.2.2.2.1
  have hG : ∀ x ∈ gT, x.before args s = true := fun x h => hts x (List.mem_cons_of_mem _ h)
  unfold fMX12_keep_0_270 at hf
  rcases Decidable.em (y1 < 0 ∨ 2100 ≤ y1.toNatClampNeg) with c15 | c15
  · replace hf := (if_pos c15).symm.trans hf
    exact absurd hf (by simp)
  · replace hf := (if_neg c15).symm.trans hf
    refine gw_iast (σ' := (stA σ 10 y1.toNatClampNeg y0)) F hW 11 10 (aM_11 K σ) rfl c15 dX12_keep_270 (sAM_10 _ _ _) (fun H locs hW => ?_)
    refine lv_iload_n hx hb dX12_keep_271 rfl (lv_at hl 2 rfl) ?_
    refine lv_if_le (tgt := 287) hx hb dX12_keep_272 (by decide) (fun c16 => ?_) (fun c16 => ?_)
    · replace hf := (if_pos c16).symm.trans hf
      exact wMX12_keep_0_287 F x1 x2 _ _ hf _ _ _ (lv_sub hl [0, 1, 2] rfl) hW
    · replace hf := (if_neg c16).symm.trans hf
      refine lv_aload_n hx hb dX12_keep_275 rfl (lv_at hl 0 rfl) ?_
      refine gw_get (v := .ref (ka K 6)) F inc_X12 hW 0 10 15 (aM_0 K (stA σ 10 y1.toNatClampNeg y0)) rfl (by decide) (hG _ q_6_127) (fun _ h9 => h9) rfl dX12_keep_276 ?_
      refine lv_aload_n hx hb dX12_keep_279 rfl (lv_at hl 0 rfl) ?_
      refine gw_get (v := .ref (ka K 12)) F inc_X12 hW 0 10 21 (aM_0 K (stA σ 10 y1.toNatClampNeg y0)) rfl (by decide) (hG _ q_6_133) (fun _ h9 => h9) rfl dX12_keep_280 ?_
      refine lv_iload_n hx hb dX12_keep_283 rfl (lv_at hl 1 rfl) ?_
      rcases Decidable.em (x1 < 0 ∨ 2100 ≤ x1.toNatClampNeg) with c18 | c18
      · replace hf := (if_pos c18).symm.trans hf
        exact absurd hf (by simp)
      · replace hf := (if_neg c18).symm.trans hf
        refine gw_iald F hW 12 11 (aM_12 K (stA σ 10 y1.toNatClampNeg y0)) rfl c18 dX12_keep_284 ?_
        refine lv_iconst (v := (0 : Int32)) hx hb dX12_keep_285 (by decide) ?_
        rcases Decidable.em (((stA σ 10 y1.toNatClampNeg y0).2.1 11 x1.toNatClampNeg) < 0 ∨ 512 ≤ ((stA σ 10 y1.toNatClampNeg y0).2.1 11 x1.toNatClampNeg).toNatClampNeg) with c19 | c19
        · replace hf := (if_pos c19).symm.trans hf
          exact absurd hf (by simp)
        · replace hf := (if_neg c19).symm.trans hf
          refine gw_iast (σ' := (stA (stA σ 10 y1.toNatClampNeg y0) 5 ((stA σ 10 y1.toNatClampNeg y0).2.1 11 x1.toNatClampNeg).toNatClampNeg (0 : Int32))) F hW 6 5 (aM_6 K (stA σ 10 y1.toNatClampNeg y0)) rfl c19 dX12_keep_286 (sAM_5 _ _ _) (fun H locs hW => ?_)
          exact wMX12_keep_0_287 F x1 x2 _ _ hf _ _ _ (lv_sub hl [0, 1, 2] rfl) hW
set_option maxHeartbeats 4000000 in
set_option maxRecDepth 100000 in
theorem wMX12_keep_0_251 {p : Program} {l : Launch} {e : Env} {s : State} {m : MethodId} {args : Array Value} {below : List Frame} {meth : Method} {c : Code} {A : Nat → Prop} {K : KX} (F : fx_ p s m args meth c cX12_keep 8 none RX12 wsX12_keep) (x1 : Int32) (x2 : Int32) (σ : XS) (o : XS) (hf : fMX12_keep_0_251 (kn K) x1 x2 σ = some o) (H : Heap) (locs : List Loc) (ls : Array Slot) (hl : lv_has ls 8 [(0, .ref (ka K 0)), (1, .int x1), (2, .int x2)]) (hW : gw_ (kD K) vwCl (tyM K) (wM K) A s σ H locs) : W p l e rMX12_keep_0 s m args below meth c H locs 0 0 (MQ below (gw_Qv (kD K) vwCl (tyM K) (wM K) A o) args s rMX12_keep_0.cells rMX12_keep_0.slots A) (F0 m 251 ls []) := by
  have hx := F.1
  have hb := F.2.1
  have hml := F.2.2.2.1
  have hown := F.2.2.2.2.1
  have hts := F.2.2.2.2.2.1
  have hG : ∀ x ∈ gT, x.before args s = true := fun x h => hts x (List.mem_cons_of_mem _ h)
  unfold fMX12_keep_0_251 at hf
  refine lv_aload_n hx hb dX12_keep_251 rfl (lv_at hl 0 rfl) ?_
  refine gw_get (v := .ref (ka K 11)) F inc_X12 hW 0 10 20 (aM_0 K σ) rfl (by decide) (hG _ q_6_132) (fun _ h9 => h9) rfl dX12_keep_252 ?_
  refine lv_iload_n hx hb dX12_keep_255 rfl (lv_at hl 1 rfl) ?_
  refine lv_iload_n hx hb dX12_keep_256 rfl (lv_at hl 2 rfl) ?_
  refine lv_if_ne (tgt := 264) hx hb dX12_keep_257 (by decide) (fun c13 => ?_) (fun c13 => ?_)
  · replace hf := (if_neg c13).symm.trans hf
    refine lv_aload_n hx hb dX12_keep_264 rfl (lv_at hl 0 rfl) ?_
    refine gw_get (v := .ref (ka K 11)) F inc_X12 hW 0 10 20 (aM_0 K σ) rfl (by decide) (hG _ q_6_132) (fun _ h9 => h9) rfl dX12_keep_265 ?_
    refine lv_iload_n hx hb dX12_keep_268 rfl (lv_at hl 1 rfl) ?_
    rcases Decidable.em (x1 < 0 ∨ 2100 ≤ x1.toNatClampNeg) with c14 | c14
    · replace hf := (if_pos c14).symm.trans hf
      exact absurd hf (by simp)
    · replace hf := (if_neg c14).symm.trans hf
      refine gw_iald F hW 11 10 (aM_11 K σ) rfl c14 dX12_keep_269 ?_
      exact wMX12_keep_0_270 F x1 x2 (σ.2.1 10 x1.toNatClampNeg) x1 _ _ hf _ _ _ (lv_sub hl [0, 1, 2] rfl) hW
  · replace hf := (if_pos c13).symm.trans hf
    refine lv_iconst (v := (0 : Int32)) hx hb dX12_keep_260 (by decide) ?_
    refine lv_goto (tgt := 270) hx hb dX12_keep_261 (by decide) ?_
    exact wMX12_keep_0_270 F x1 x2 (0 : Int32) x1 _ _ hf _ _ _ (lv_sub hl [0, 1, 2] rfl) hW
set_option maxHeartbeats 4000000 in
set_option maxRecDepth 100000 in
theorem wMX12_keep_0_216 {p : Program} {l : Launch} {e : Env} {s : State} {m : MethodId} {args : Array Value} {below : List Frame} {meth : Method} {c : Code} {A : Nat → Prop} {K : KX} (F : fx_ p s m args meth c cX12_keep 8 none RX12 wsX12_keep) (x1 : Int32) (x2 : Int32) (σ : XS) (o : XS) (hf : fMX12_keep_0_216 (kn K) x1 x2 σ = some o) (H : Heap) (locs : List Loc) (ls : Array Slot) (hl : lv_has ls 8 [(0, .ref (ka K 0)), (1, .int x1), (2, .int x2)]) (hW : gw_ (kD K) vwCl (tyM K) (wM K) A s σ H locs) : W p l e rMX12_keep_0 s m args below meth c H locs 0 0 (MQ below (gw_Qv (kD K) vwCl (tyM K) (wM K) A o) args s rMX12_keep_0.cells rMX12_keep_0.slots A) (F0 m 216 ls []) := by
  have hx := F.1
  have hb := F.2.1
  have hml := F.2.2.2.1
  have hown := F.2.2.2.2.1
  have hts := F.2.2.2.2.2.1
  have hG : ∀ x ∈ gT, x.before args s = true := fun x h => hts x (List.mem_cons_of_mem _ h)
  unfold fMX12_keep_0_216 at hf
  refine lv_iload_n hx hb dX12_keep_216 rfl (lv_at hl 2 rfl) ?_
  refine lv_sipush (v := (268 : Int32)) hx hb dX12_keep_217 (by decide) ?_
  refine lv_icmp_gt (tgt := 251) hx hb dX12_keep_220 (by decide) (fun c12 => ?_) (fun c12 => ?_)
  · replace hf := (if_pos c12).symm.trans hf
    exact wMX12_keep_0_251 F x1 x2 _ _ hf _ _ _ (lv_sub hl [0, 1, 2] rfl) hW
  · replace hf := (if_neg c12).symm.trans hf
    refine lv_aload_n hx hb dX12_keep_223 rfl (lv_at hl 0 rfl) ?_
    refine gw_get (v := .ref (ka K 14)) F inc_X12 hW 0 10 23 (aM_0 K σ) rfl (by decide) (hG _ q_6_135) (fun _ h9 => h9) rfl dX12_keep_224 ?_
    refine lv_iload_n hx hb dX12_keep_227 rfl (lv_at hl 1 rfl) ?_
    rcases Decidable.em (x1 < 0 ∨ 2100 ≤ x1.toNatClampNeg) with c20 | c20
    · replace hf := (if_pos c20).symm.trans hf
      exact absurd hf (by simp)
    · replace hf := (if_neg c20).symm.trans hf
      refine gw_iald F hW 14 13 (aM_14 K σ) rfl c20 dX12_keep_228 ?_
      refine lv_if_eq (tgt := 251) hx hb dX12_keep_229 (by decide) (fun c21 => ?_) (fun c21 => ?_)
      · replace hf := (if_pos c21).symm.trans hf
        exact wMX12_keep_0_251 F x1 x2 _ _ hf _ _ _ (lv_sub hl [0, 1, 2] rfl) hW
      · replace hf := (if_neg c21).symm.trans hf
        refine lv_aload_n hx hb dX12_keep_232 rfl (lv_at hl 0 rfl) ?_
        refine gw_get (v := .ref (ka K 5)) F inc_X12 hW 0 10 14 (aM_0 K σ) rfl (by decide) (hG _ q_6_126) (fun _ h9 => h9) rfl dX12_keep_233 ?_
        refine lv_aload_n hx hb dX12_keep_236 rfl (lv_at hl 0 rfl) ?_
        refine gw_get (v := .ref (ka K 14)) F inc_X12 hW 0 10 23 (aM_0 K σ) rfl (by decide) (hG _ q_6_135) (fun _ h9 => h9) rfl dX12_keep_237 ?_
        refine lv_iload_n hx hb dX12_keep_240 rfl (lv_at hl 1 rfl) ?_
        rcases Decidable.em (x1 < 0 ∨ 2100 ≤ x1.toNatClampNeg) with c22 | c22
        · replace hf := (if_pos c22).symm.trans hf
          exact absurd hf (by simp)
        · replace hf := (if_neg c22).symm.trans hf
          refine gw_iald F hW 14 13 (aM_14 K σ) rfl c22 dX12_keep_241 ?_
          refine lv_iconst (v := (0 : Int32)) hx hb dX12_keep_242 (by decide) ?_
          rcases Decidable.em ((σ.2.1 13 x1.toNatClampNeg) < 0 ∨ 512 ≤ (σ.2.1 13 x1.toNatClampNeg).toNatClampNeg) with c23 | c23
          · replace hf := (if_pos c23).symm.trans hf
            exact absurd hf (by simp)
          · replace hf := (if_neg c23).symm.trans hf
            refine gw_zast (σ' := (stA σ 4 (σ.2.1 13 x1.toNatClampNeg).toNatClampNeg (vp_nar .boolean (0 : Int32)))) F hW 5 4 (aM_5 K σ) rfl c23 dX12_keep_243 (sAM_4 _ _ _) (fun H locs hW => ?_)
            refine lv_aload_n hx hb dX12_keep_244 rfl (lv_at hl 0 rfl) ?_
            refine gw_get (v := .ref (ka K 14)) F inc_X12 hW 0 10 23 (aM_0 K (stA σ 4 (σ.2.1 13 x1.toNatClampNeg).toNatClampNeg (vp_nar .boolean (0 : Int32)))) rfl (by decide) (hG _ q_6_135) (fun _ h9 => h9) rfl dX12_keep_245 ?_
            refine lv_iload_n hx hb dX12_keep_248 rfl (lv_at hl 1 rfl) ?_
            refine lv_iconst (v := (0 : Int32)) hx hb dX12_keep_249 (by decide) ?_
            rcases Decidable.em (x1 < 0 ∨ 2100 ≤ x1.toNatClampNeg) with c24 | c24
            · replace hf := (if_pos c24).symm.trans hf
              exact absurd hf (by simp)
            · replace hf := (if_neg c24).symm.trans hf
              refine gw_iast (σ' := (stA (stA σ 4 (σ.2.1 13 x1.toNatClampNeg).toNatClampNeg (vp_nar .boolean (0 : Int32))) 13 x1.toNatClampNeg (0 : Int32))) F hW 14 13 (aM_14 K (stA σ 4 (σ.2.1 13 x1.toNatClampNeg).toNatClampNeg (vp_nar .boolean (0 : Int32)))) rfl c24 dX12_keep_250 (sAM_13 _ _ _) (fun H locs hW => ?_)
              exact wMX12_keep_0_251 F x1 x2 _ _ hf _ _ _ (lv_sub hl [0, 1, 2] rfl) hW
set_option maxHeartbeats 4000000 in
set_option maxRecDepth 100000 in
theorem wMX12_keep_0_181 {p : Program} {l : Launch} {e : Env} {s : State} {m : MethodId} {args : Array Value} {below : List Frame} {meth : Method} {c : Code} {A : Nat → Prop} {K : KX} (F : fx_ p s m args meth c cX12_keep 8 none RX12 wsX12_keep) (x1 : Int32) (x2 : Int32) (y0 : Int32) (y1 : Int32) (σ : XS) (o : XS) (hf : fMX12_keep_0_181 (kn K) x1 x2 y0 y1 σ = some o) (H : Heap) (locs : List Loc) (ls : Array Slot) (hl : lv_has ls 8 [(0, .ref (ka K 0)), (1, .int x1), (2, .int x2)]) (hW : gw_ (kD K) vwCl (tyM K) (wM K) A s σ H locs) : W p l e rMX12_keep_0 s m args below meth c H locs 0 0 (MQ below (gw_Qv (kD K) vwCl (tyM K) (wM K) A o) args s rMX12_keep_0.cells rMX12_keep_0.slots A) (F0 m 181 ls [.int y0, .int y1, .ref (ka K 15)]) := by
  have hx := F.1
  have hb := F.2.1
  have hml := F.2.2.2.1
  have hown := F.2.2.2.2.1
  have hts := F.2.2.2.2.2.1
  have hG : ∀ x ∈ gT, x.before args s = true := fun x h => hts x (List.mem_cons_of_mem _ h)
  unfold fMX12_keep_0_181 at hf
  rcases Decidable.em (y1 < 0 ∨ 2100 ≤ y1.toNatClampNeg) with c10 | c10
  · replace hf := (if_pos c10).symm.trans hf
    exact absurd hf (by simp)
  · replace hf := (if_neg c10).symm.trans hf
    refine gw_iast (σ' := (stA σ 14 y1.toNatClampNeg y0)) F hW 15 14 (aM_15 K σ) rfl c10 dX12_keep_181 (sAM_14 _ _ _) (fun H locs hW => ?_)
    refine lv_iload_n hx hb dX12_keep_182 rfl (lv_at hl 2 rfl) ?_
    refine lv_bipush (v := (12 : Int32)) hx hb dX12_keep_183 (by decide) ?_
    refine lv_icmp_gt (tgt := 216) hx hb dX12_keep_185 (by decide) (fun c11 => ?_) (fun c11 => ?_)
    · replace hf := (if_pos c11).symm.trans hf
      exact wMX12_keep_0_216 F x1 x2 _ _ hf _ _ _ (lv_sub hl [0, 1, 2] rfl) hW
    · replace hf := (if_neg c11).symm.trans hf
      refine lv_aload_n hx hb dX12_keep_188 rfl (lv_at hl 0 rfl) ?_
      refine gw_get (v := .ref (ka K 13)) F inc_X12 hW 0 10 22 (aM_0 K (stA σ 14 y1.toNatClampNeg y0)) rfl (by decide) (hG _ q_6_134) (fun _ h9 => h9) rfl dX12_keep_189 ?_
      refine lv_iload_n hx hb dX12_keep_192 rfl (lv_at hl 1 rfl) ?_
      rcases Decidable.em (x1 < 0 ∨ 2100 ≤ x1.toNatClampNeg) with c25 | c25
      · replace hf := (if_pos c25).symm.trans hf
        exact absurd hf (by simp)
      · replace hf := (if_neg c25).symm.trans hf
        refine gw_iald F hW 13 12 (aM_13 K (stA σ 14 y1.toNatClampNeg y0)) rfl c25 dX12_keep_193 ?_
        refine lv_if_eq (tgt := 216) hx hb dX12_keep_194 (by decide) (fun c26 => ?_) (fun c26 => ?_)
        · replace hf := (if_pos c26).symm.trans hf
          exact wMX12_keep_0_216 F x1 x2 _ _ hf _ _ _ (lv_sub hl [0, 1, 2] rfl) hW
        · replace hf := (if_neg c26).symm.trans hf
          refine lv_aload_n hx hb dX12_keep_197 rfl (lv_at hl 0 rfl) ?_
          refine gw_get (v := .ref (ka K 5)) F inc_X12 hW 0 10 14 (aM_0 K (stA σ 14 y1.toNatClampNeg y0)) rfl (by decide) (hG _ q_6_126) (fun _ h9 => h9) rfl dX12_keep_198 ?_
          refine lv_aload_n hx hb dX12_keep_201 rfl (lv_at hl 0 rfl) ?_
          refine gw_get (v := .ref (ka K 13)) F inc_X12 hW 0 10 22 (aM_0 K (stA σ 14 y1.toNatClampNeg y0)) rfl (by decide) (hG _ q_6_134) (fun _ h9 => h9) rfl dX12_keep_202 ?_
          refine lv_iload_n hx hb dX12_keep_205 rfl (lv_at hl 1 rfl) ?_
          rcases Decidable.em (x1 < 0 ∨ 2100 ≤ x1.toNatClampNeg) with c27 | c27
          · replace hf := (if_pos c27).symm.trans hf
            exact absurd hf (by simp)
          · replace hf := (if_neg c27).symm.trans hf
            refine gw_iald F hW 13 12 (aM_13 K (stA σ 14 y1.toNatClampNeg y0)) rfl c27 dX12_keep_206 ?_
            refine lv_iconst (v := (0 : Int32)) hx hb dX12_keep_207 (by decide) ?_
            rcases Decidable.em (((stA σ 14 y1.toNatClampNeg y0).2.1 12 x1.toNatClampNeg) < 0 ∨ 512 ≤ ((stA σ 14 y1.toNatClampNeg y0).2.1 12 x1.toNatClampNeg).toNatClampNeg) with c28 | c28
            · replace hf := (if_pos c28).symm.trans hf
              exact absurd hf (by simp)
            · replace hf := (if_neg c28).symm.trans hf
              refine gw_zast (σ' := (stA (stA σ 14 y1.toNatClampNeg y0) 4 ((stA σ 14 y1.toNatClampNeg y0).2.1 12 x1.toNatClampNeg).toNatClampNeg (vp_nar .boolean (0 : Int32)))) F hW 5 4 (aM_5 K (stA σ 14 y1.toNatClampNeg y0)) rfl c28 dX12_keep_208 (sAM_4 _ _ _) (fun H locs hW => ?_)
              refine lv_aload_n hx hb dX12_keep_209 rfl (lv_at hl 0 rfl) ?_
              refine gw_get (v := .ref (ka K 13)) F inc_X12 hW 0 10 22 (aM_0 K (stA (stA σ 14 y1.toNatClampNeg y0) 4 ((stA σ 14 y1.toNatClampNeg y0).2.1 12 x1.toNatClampNeg).toNatClampNeg (vp_nar .boolean (0 : Int32)))) rfl (by decide) (hG _ q_6_134) (fun _ h9 => h9) rfl dX12_keep_210 ?_
              refine lv_iload_n hx hb dX12_keep_213 rfl (lv_at hl 1 rfl) ?_
              refine lv_iconst (v := (0 : Int32)) hx hb dX12_keep_214 (by decide) ?_
              rcases Decidable.em (x1 < 0 ∨ 2100 ≤ x1.toNatClampNeg) with c29 | c29
              · replace hf := (if_pos c29).symm.trans hf
                exact absurd hf (by simp)
              · replace hf := (if_neg c29).symm.trans hf
                refine gw_iast (σ' := (stA (stA (stA σ 14 y1.toNatClampNeg y0) 4 ((stA σ 14 y1.toNatClampNeg y0).2.1 12 x1.toNatClampNeg).toNatClampNeg (vp_nar .boolean (0 : Int32))) 12 x1.toNatClampNeg (0 : Int32))) F hW 13 12 (aM_13 K (stA (stA σ 14 y1.toNatClampNeg y0) 4 ((stA σ 14 y1.toNatClampNeg y0).2.1 12 x1.toNatClampNeg).toNatClampNeg (vp_nar .boolean (0 : Int32)))) rfl c29 dX12_keep_215 (sAM_12 _ _ _) (fun H locs hW => ?_)
                exact wMX12_keep_0_216 F x1 x2 _ _ hf _ _ _ (lv_sub hl [0, 1, 2] rfl) hW
set_option maxHeartbeats 4000000 in
set_option maxRecDepth 100000 in
theorem wMX12_keep_0_161 {p : Program} {l : Launch} {e : Env} {s : State} {m : MethodId} {args : Array Value} {below : List Frame} {meth : Method} {c : Code} {A : Nat → Prop} {K : KX} (F : fx_ p s m args meth c cX12_keep 8 none RX12 wsX12_keep) (x1 : Int32) (x2 : Int32) (x5 : Int32) (σ : XS) (o : XS) (hf : fMX12_keep_0_161 (kn K) x1 x2 x5 σ = some o) (H : Heap) (locs : List Loc) (ls : Array Slot) (hl : lv_has ls 8 [(0, .ref (ka K 0)), (1, .int x1), (2, .int x2), (5, .int x5)]) (hW : gw_ (kD K) vwCl (tyM K) (wM K) A s σ H locs) : W p l e rMX12_keep_0 s m args below meth c H locs 0 0 (MQ below (gw_Qv (kD K) vwCl (tyM K) (wM K) A o) args s rMX12_keep_0.cells rMX12_keep_0.slots A) (F0 m 161 ls []) := by
  have hx := F.1
  have hb := F.2.1
  have hml := F.2.2.2.1
  have hown := F.2.2.2.2.1
  have hts := F.2.2.2.2.2.1
  have hG : ∀ x ∈ gT, x.before args s = true := fun x h => hts x (List.mem_cons_of_mem _ h)
  unfold fMX12_keep_0_161 at hf
  refine lv_aload_n hx hb dX12_keep_161 rfl (lv_at hl 0 rfl) ?_
  refine gw_get (v := .ref (ka K 15)) F inc_X12 hW 0 10 24 (aM_0 K σ) rfl (by decide) (hG _ q_6_136) (fun _ h9 => h9) rfl dX12_keep_162 ?_
  refine lv_iload_n hx hb dX12_keep_165 rfl (lv_at hl 1 rfl) ?_
  refine lv_iload hx hb dX12_keep_166 (lv_at hl 3 rfl) ?_
  refine lv_if_ne (tgt := 175) hx hb dX12_keep_168 (by decide) (fun c8 => ?_) (fun c8 => ?_)
  · replace hf := (if_neg c8).symm.trans hf
    refine lv_aload_n hx hb dX12_keep_175 rfl (lv_at hl 0 rfl) ?_
    refine gw_get (v := .ref (ka K 15)) F inc_X12 hW 0 10 24 (aM_0 K σ) rfl (by decide) (hG _ q_6_136) (fun _ h9 => h9) rfl dX12_keep_176 ?_
    refine lv_iload_n hx hb dX12_keep_179 rfl (lv_at hl 1 rfl) ?_
    rcases Decidable.em (x1 < 0 ∨ 2100 ≤ x1.toNatClampNeg) with c9 | c9
    · replace hf := (if_pos c9).symm.trans hf
      exact absurd hf (by simp)
    · replace hf := (if_neg c9).symm.trans hf
      refine gw_iald F hW 15 14 (aM_15 K σ) rfl c9 dX12_keep_180 ?_
      exact wMX12_keep_0_181 F x1 x2 (σ.2.1 14 x1.toNatClampNeg) x1 _ _ hf _ _ _ (lv_sub hl [0, 1, 2] rfl) hW
  · replace hf := (if_pos c8).symm.trans hf
    refine lv_iconst (v := (0 : Int32)) hx hb dX12_keep_171 (by decide) ?_
    refine lv_goto (tgt := 181) hx hb dX12_keep_172 (by decide) ?_
    exact wMX12_keep_0_181 F x1 x2 (0 : Int32) x1 _ _ hf _ _ _ (lv_sub hl [0, 1, 2] rfl) hW
set_option maxHeartbeats 4000000 in
set_option maxRecDepth 100000 in
theorem wMX12_keep_0_133 {p : Program} {l : Launch} {e : Env} {s : State} {m : MethodId} {args : Array Value} {below : List Frame} {meth : Method} {c : Code} {A : Nat → Prop} {K : KX} (F : fx_ p s m args meth c cX12_keep 8 none RX12 wsX12_keep) {k100 : (Int32 × Int32 × Int32 × Int32 × Int32 × Int32 × XS) → Option XS} (hk100 : ∀ t o, k100 t = some o → PMX12_keep_0_100 p l e s m args below meth c A K t o) (x1 : Int32) (x2 : Int32) (x4 : Int32) (x5 : Int32) (x6 : Int32) (x7 : Int32) (σ : XS) (o : XS) (hf : fMX12_keep_0_133 (kn K) k100 x1 x2 x4 x5 x6 x7 σ = some o) (H : Heap) (locs : List Loc) (ls : Array Slot) (hl : lv_has ls 8 [(0, .ref (ka K 0)), (1, .int x1), (2, .int x2), (4, .int x4), (5, .int x5), (6, .int x6), (7, .int x7)]) (hW : gw_ (kD K) vwCl (tyM K) (wM K) A s σ H locs) : W p l e rMX12_keep_0 s m args below meth c H locs 0 0 (MQ below (gw_Qv (kD K) vwCl (tyM K) (wM K) A o) args s rMX12_keep_0.cells rMX12_keep_0.slots A) (F0 m 133 ls []) := by
  have hx := F.1
  have hb := F.2.1
  have hml := F.2.2.2.1
  have hown := F.2.2.2.2.1
  have hts := F.2.2.2.2.2.1
  have hG : ∀ x ∈ gT, x.before args s = true := fun x h => hts x (List.mem_cons_of_mem _ h)
  unfold fMX12_keep_0_133 at hf
  refine lv_iinc (v := (x6 + (1 : Int32))) (lv' := [(6, .int (x6 + (1 : Int32))), (0, .ref (ka K 0)), (1, .int x1), (2, .int x2), (4, .int x4), (5, .int x5), (7, .int x7)]) hx hb dX12_keep_133 hl (k := 5) rfl rfl (by decide) rfl (fun ls hl => ?_)
  refine lv_aload_n hx hb dX12_keep_136 rfl (lv_at hl 1 rfl) ?_
  refine gw_get (v := .ref (ka K 6)) F inc_X12 hW 0 10 15 (aM_0 K σ) rfl (by decide) (hG _ q_6_127) (fun _ h9 => h9) rfl dX12_keep_137 ?_
  refine lv_iload hx hb dX12_keep_140 (lv_at hl 4 rfl) ?_
  rcases Decidable.em (x4 < 0 ∨ 512 ≤ x4.toNatClampNeg) with c33 | c33
  · replace hf := (if_pos c33).symm.trans hf
    exact absurd hf (by simp)
  · replace hf := (if_neg c33).symm.trans hf
    refine gw_iald F hW 6 5 (aM_6 K σ) rfl c33 dX12_keep_142 ?_
    refine lv_istore (lv' := [(4, .int (σ.2.1 5 x4.toNatClampNeg)), (6, .int (x6 + (1 : Int32))), (0, .ref (ka K 0)), (1, .int x1), (2, .int x2), (5, .int x5), (7, .int x7)]) hx hb dX12_keep_143 hl (by decide) rfl (fun ls hl => ?_)
    refine lv_goto (tgt := 100) hx hb dX12_keep_145 (by decide) ?_
    exact hk100 _ _ hf _ _ _ (lv_sub hl [2, 3, 4, 0, 5, 1, 6] rfl) hW
set_option maxHeartbeats 4000000 in
set_option maxRecDepth 100000 in
theorem wMX12_keep_0_120 {p : Program} {l : Launch} {e : Env} {s : State} {m : MethodId} {args : Array Value} {below : List Frame} {meth : Method} {c : Code} {A : Nat → Prop} {K : KX} (F : fx_ p s m args meth c cX12_keep 8 none RX12 wsX12_keep) {k100 : (Int32 × Int32 × Int32 × Int32 × Int32 × Int32 × XS) → Option XS} (hk100 : ∀ t o, k100 t = some o → PMX12_keep_0_100 p l e s m args below meth c A K t o) (x1 : Int32) (x2 : Int32) (x4 : Int32) (x5 : Int32) (x6 : Int32) (x7 : Int32) (σ : XS) (o : XS) (hf : fMX12_keep_0_120 (kn K) k100 x1 x2 x4 x5 x6 x7 σ = some o) (H : Heap) (locs : List Loc) (ls : Array Slot) (hl : lv_has ls 8 [(0, .ref (ka K 0)), (1, .int x1), (2, .int x2), (4, .int x4), (5, .int x5), (6, .int x6), (7, .int x7)]) (hW : gw_ (kD K) vwCl (tyM K) (wM K) A s σ H locs) : W p l e rMX12_keep_0 s m args below meth c H locs 0 0 (MQ below (gw_Qv (kD K) vwCl (tyM K) (wM K) A o) args s rMX12_keep_0.cells rMX12_keep_0.slots A) (F0 m 120 ls []) := by
  have hx := F.1
  have hb := F.2.1
  have hml := F.2.2.2.1
  have hown := F.2.2.2.2.1
  have hts := F.2.2.2.2.2.1
  have hG : ∀ x ∈ gT, x.before args s = true := fun x h => hts x (List.mem_cons_of_mem _ h)
  unfold fMX12_keep_0_120 at hf
  refine lv_iload hx hb dX12_keep_120 (lv_at hl 5 rfl) ?_
  refine lv_iload hx hb dX12_keep_122 (lv_at hl 4 rfl) ?_
  refine lv_iconst (v := (1 : Int32)) hx hb dX12_keep_124 (by decide) ?_
  refine lv_isub hx hb dX12_keep_125 ?_
  refine lv_icmp_ne (tgt := 133) hx hb dX12_keep_126 (by decide) (fun c32 => ?_) (fun c32 => ?_)
  · replace hf := (if_neg c32).symm.trans hf
    exact wMX12_keep_0_133 F hk100 x1 x2 x4 x5 x6 x7 _ _ hf _ _ _ (lv_sub hl [0, 1, 2, 3, 4, 5, 6] rfl) hW
  · replace hf := (if_pos c32).symm.trans hf
    refine lv_iload hx hb dX12_keep_129 (lv_at hl 3 rfl) ?_
    refine lv_istore (lv' := [(7, .int x4), (0, .ref (ka K 0)), (1, .int x1), (2, .int x2), (4, .int x4), (5, .int x5), (6, .int x6)]) hx hb dX12_keep_131 hl (by decide) rfl (fun ls hl => ?_)
    exact wMX12_keep_0_133 F hk100 x1 x2 x4 x5 x6 x4 _ _ hf _ _ _ (lv_sub hl [1, 2, 3, 4, 5, 6, 0] rfl) hW
set_option maxHeartbeats 4000000 in
set_option maxRecDepth 100000 in
theorem wMX12_keep_0_100 {p : Program} {l : Launch} {e : Env} {s : State} {m : MethodId} {args : Array Value} {below : List Frame} {meth : Method} {c : Code} {A : Nat → Prop} {K : KX} (F : fx_ p s m args meth c cX12_keep 8 none RX12 wsX12_keep) {k100 : (Int32 × Int32 × Int32 × Int32 × Int32 × Int32 × XS) → Option XS} (hk100 : ∀ t o, k100 t = some o → PMX12_keep_0_100 p l e s m args below meth c A K t o) (x1 : Int32) (x2 : Int32) (x4 : Int32) (x5 : Int32) (x6 : Int32) (x7 : Int32) (σ : XS) (o : XS) (hf : fMX12_keep_0_100 (kn K) k100 x1 x2 x4 x5 x6 x7 σ = some o) (H : Heap) (locs : List Loc) (ls : Array Slot) (hl : lv_has ls 8 [(0, .ref (ka K 0)), (1, .int x1), (2, .int x2), (4, .int x4), (5, .int x5), (6, .int x6), (7, .int x7)]) (hW : gw_ (kD K) vwCl (tyM K) (wM K) A s σ H locs) : W p l e rMX12_keep_0 s m args below meth c H locs 0 0 (MQ below (gw_Qv (kD K) vwCl (tyM K) (wM K) A o) args s rMX12_keep_0.cells rMX12_keep_0.slots A) (F0 m 100 ls []) := by
  have hx := F.1
  have hb := F.2.1
  have hml := F.2.2.2.1
  have hown := F.2.2.2.2.1
  have hts := F.2.2.2.2.2.1
  have hG : ∀ x ∈ gT, x.before args s = true := fun x h => hts x (List.mem_cons_of_mem _ h)
  unfold fMX12_keep_0_100 at hf
  refine lv_iload hx hb dX12_keep_100 (lv_at hl 3 rfl) ?_
  refine lv_if_eq (tgt := 148) hx hb dX12_keep_102 (by decide) (fun c6 => ?_) (fun c6 => ?_)
  · replace hf := (if_pos c6).symm.trans hf
    refine lv_iload hx hb dX12_keep_148 (lv_at hl 6 rfl) ?_
    refine lv_if_eq (tgt := 161) hx hb dX12_keep_150 (by decide) (fun c7 => ?_) (fun c7 => ?_)
    · replace hf := (if_pos c7).symm.trans hf
      exact wMX12_keep_0_161 F x1 x2 x5 _ _ hf _ _ _ (lv_sub hl [0, 1, 2, 4] rfl) hW
    · replace hf := (if_neg c7).symm.trans hf
      refine lv_aload_n hx hb dX12_keep_153 rfl (lv_at hl 0 rfl) ?_
      refine gw_get (v := .ref (ka K 6)) F inc_X12 hW 0 10 15 (aM_0 K σ) rfl (by decide) (hG _ q_6_127) (fun _ h9 => h9) rfl dX12_keep_154 ?_
      refine lv_iload hx hb dX12_keep_157 (lv_at hl 6 rfl) ?_
      refine lv_iconst (v := (0 : Int32)) hx hb dX12_keep_159 (by decide) ?_
      rcases Decidable.em (x7 < 0 ∨ 512 ≤ x7.toNatClampNeg) with c30 | c30
      · replace hf := (if_pos c30).symm.trans hf
        exact absurd hf (by simp)
      · replace hf := (if_neg c30).symm.trans hf
        refine gw_iast (σ' := (stA σ 5 x7.toNatClampNeg (0 : Int32))) F hW 6 5 (aM_6 K σ) rfl c30 dX12_keep_160 (sAM_5 _ _ _) (fun H locs hW => ?_)
        exact wMX12_keep_0_161 F x1 x2 x5 _ _ hf _ _ _ (lv_sub hl [0, 1, 2, 4] rfl) hW
  · replace hf := (if_neg c6).symm.trans hf
    refine lv_iload hx hb dX12_keep_105 (lv_at hl 5 rfl) ?_
    refine lv_iload hx hb dX12_keep_107 (lv_at hl 4 rfl) ?_
    refine lv_icmp_lt (tgt := 120) hx hb dX12_keep_109 (by decide) (fun c31 => ?_) (fun c31 => ?_)
    · replace hf := (if_pos c31).symm.trans hf
      exact wMX12_keep_0_120 F hk100 x1 x2 x4 x5 x6 x7 _ _ hf _ _ _ (lv_sub hl [0, 1, 2, 3, 4, 5, 6] rfl) hW
    · replace hf := (if_neg c31).symm.trans hf
      refine lv_aload_n hx hb dX12_keep_112 rfl (lv_at hl 0 rfl) ?_
      refine gw_get (v := .ref (ka K 5)) F inc_X12 hW 0 10 14 (aM_0 K σ) rfl (by decide) (hG _ q_6_126) (fun _ h9 => h9) rfl dX12_keep_113 ?_
      refine lv_iload hx hb dX12_keep_116 (lv_at hl 3 rfl) ?_
      refine lv_iconst (v := (0 : Int32)) hx hb dX12_keep_118 (by decide) ?_
      rcases Decidable.em (x4 < 0 ∨ 512 ≤ x4.toNatClampNeg) with c34 | c34
      · replace hf := (if_pos c34).symm.trans hf
        exact absurd hf (by simp)
      · replace hf := (if_neg c34).symm.trans hf
        refine gw_zast (σ' := (stA σ 4 x4.toNatClampNeg (vp_nar .boolean (0 : Int32)))) F hW 5 4 (aM_5 K σ) rfl c34 dX12_keep_119 (sAM_4 _ _ _) (fun H locs hW => ?_)
        exact wMX12_keep_0_120 F hk100 x1 x2 x4 x5 x6 x7 _ _ hf _ _ _ (lv_sub hl [0, 1, 2, 3, 4, 5, 6] rfl) hW
set_option maxHeartbeats 4000000 in
set_option maxRecDepth 100000 in
theorem wMX12_keep_0_92 {p : Program} {l : Launch} {e : Env} {s : State} {m : MethodId} {args : Array Value} {below : List Frame} {meth : Method} {c : Code} {A : Nat → Prop} {K : KX} (F : fx_ p s m args meth c cX12_keep 8 none RX12 wsX12_keep) (x1 : Int32) (x2 : Int32) (x4 : Int32) (y0 : Int32) (σ : XS) (o : XS) (hf : fMX12_keep_0_92 (kn K) x1 x2 x4 y0 σ = some o) (H : Heap) (locs : List Loc) (ls : Array Slot) (hl : lv_has ls 8 [(0, .ref (ka K 0)), (1, .int x1), (2, .int x2), (4, .int x4)]) (hW : gw_ (kD K) vwCl (tyM K) (wM K) A s σ H locs) : W p l e rMX12_keep_0 s m args below meth c H locs 0 0 (MQ below (gw_Qv (kD K) vwCl (tyM K) (wM K) A o) args s rMX12_keep_0.cells rMX12_keep_0.slots A) (F0 m 92 ls [.int y0]) := by
  have hx := F.1
  have hb := F.2.1
  have hml := F.2.2.2.1
  have hown := F.2.2.2.2.1
  have hts := F.2.2.2.2.2.1
  have hG : ∀ x ∈ gT, x.before args s = true := fun x h => hts x (List.mem_cons_of_mem _ h)
  unfold fMX12_keep_0_92 at hf
  refine lv_istore (lv' := [(5, .int y0), (0, .ref (ka K 0)), (1, .int x1), (2, .int x2), (4, .int x4)]) hx hb dX12_keep_92 hl (by decide) rfl (fun ls hl => ?_)
  refine lv_iconst (v := (0 : Int32)) hx hb dX12_keep_94 (by decide) ?_
  refine lv_istore (lv' := [(6, .int (0 : Int32)), (5, .int y0), (0, .ref (ka K 0)), (1, .int x1), (2, .int x2), (4, .int x4)]) hx hb dX12_keep_95 hl (by decide) rfl (fun ls hl => ?_)
  refine lv_iconst (v := (0 : Int32)) hx hb dX12_keep_97 (by decide) ?_
  refine lv_istore (lv' := [(7, .int (0 : Int32)), (6, .int (0 : Int32)), (5, .int y0), (0, .ref (ka K 0)), (1, .int x1), (2, .int x2), (4, .int x4)]) hx hb dX12_keep_98 hl (by decide) rfl (fun ls hl => ?_)
  exact lfix_ind (P := PMX12_keep_0_100 p l e s m args below meth c A K) (fun k100 hk100 t o hf => wMX12_keep_0_100 F hk100 t.1 t.2.1 t.2.2.1 t.2.2.2.1 t.2.2.2.2.1 t.2.2.2.2.2.1 t.2.2.2.2.2.2 o hf) FU _ _ hf _ _ _ (lv_sub hl [3, 4, 5, 6, 2, 1, 0] rfl) hW
set_option maxHeartbeats 4000000 in
set_option maxRecDepth 100000 in
theorem wMX12_keep_0_49 {p : Program} {l : Launch} {e : Env} {s : State} {m : MethodId} {args : Array Value} {below : List Frame} {meth : Method} {c : Code} {A : Nat → Prop} {K : KX} (F : fx_ p s m args meth c cX12_keep 8 none RX12 wsX12_keep) {k10 : (Int32 × Int32 × Int32 × Int32 × XS) → Option XS} (hk10 : ∀ t o, k10 t = some o → PMX12_keep_0_10 p l e s m args below meth c A K t o) (x1 : Int32) (x2 : Int32) (x3 : Int32) (x4 : Int32) (σ : XS) (o : XS) (hf : fMX12_keep_0_49 (kn K) k10 x1 x2 x3 x4 σ = some o) (H : Heap) (locs : List Loc) (ls : Array Slot) (hl : lv_has ls 8 [(0, .ref (ka K 0)), (1, .int x1), (2, .int x2), (3, .int x3), (4, .int x4)]) (hW : gw_ (kD K) vwCl (tyM K) (wM K) A s σ H locs) : W p l e rMX12_keep_0 s m args below meth c H locs 0 0 (MQ below (gw_Qv (kD K) vwCl (tyM K) (wM K) A o) args s rMX12_keep_0.cells rMX12_keep_0.slots A) (F0 m 49 ls []) := by
  have hx := F.1
  have hb := F.2.1
  have hml := F.2.2.2.1
  have hown := F.2.2.2.2.1
  have hts := F.2.2.2.2.2.1
  have hG : ∀ x ∈ gT, x.before args s = true := fun x h => hts x (List.mem_cons_of_mem _ h)
  unfold fMX12_keep_0_49 at hf
  refine lv_aload_n hx hb dX12_keep_49 rfl (lv_at hl 0 rfl) ?_
  refine gw_get (v := .ref (ka K 6)) F inc_X12 hW 0 10 15 (aM_0 K σ) rfl (by decide) (hG _ q_6_127) (fun _ h9 => h9) rfl dX12_keep_50 ?_
  refine lv_iload_n hx hb dX12_keep_53 rfl (lv_at hl 3 rfl) ?_
  rcases Decidable.em (x3 < 0 ∨ 512 ≤ x3.toNatClampNeg) with c40 | c40
  · replace hf := (if_pos c40).symm.trans hf
    exact absurd hf (by simp)
  · replace hf := (if_neg c40).symm.trans hf
    refine gw_iald F hW 6 5 (aM_6 K σ) rfl c40 dX12_keep_54 ?_
    refine lv_istore_n (lv' := [(3, .int (σ.2.1 5 x3.toNatClampNeg)), (0, .ref (ka K 0)), (1, .int x1), (2, .int x2), (4, .int x4)]) hx hb dX12_keep_55 rfl hl (by decide) rfl (fun ls hl => ?_)
    refine lv_iinc (v := (x4 + (1 : Int32))) (lv' := [(4, .int (x4 + (1 : Int32))), (3, .int (σ.2.1 5 x3.toNatClampNeg)), (0, .ref (ka K 0)), (1, .int x1), (2, .int x2)]) hx hb dX12_keep_56 hl (k := 4) rfl rfl (by decide) rfl (fun ls hl => ?_)
    refine lv_goto (tgt := 10) hx hb dX12_keep_59 (by decide) ?_
    exact hk10 _ _ hf _ _ _ (lv_sub hl [2, 3, 4, 1, 0] rfl) hW
set_option maxHeartbeats 4000000 in
set_option maxRecDepth 100000 in
theorem wMX12_keep_0_34 {p : Program} {l : Launch} {e : Env} {s : State} {m : MethodId} {args : Array Value} {below : List Frame} {meth : Method} {c : Code} {A : Nat → Prop} {K : KX} (F : fx_ p s m args meth c cX12_keep 8 none RX12 wsX12_keep) {k10 : (Int32 × Int32 × Int32 × Int32 × XS) → Option XS} (hk10 : ∀ t o, k10 t = some o → PMX12_keep_0_10 p l e s m args below meth c A K t o) (x1 : Int32) (x2 : Int32) (x3 : Int32) (x4 : Int32) (σ : XS) (o : XS) (hf : fMX12_keep_0_34 (kn K) k10 x1 x2 x3 x4 σ = some o) (H : Heap) (locs : List Loc) (ls : Array Slot) (hl : lv_has ls 8 [(0, .ref (ka K 0)), (1, .int x1), (2, .int x2), (3, .int x3), (4, .int x4)]) (hW : gw_ (kD K) vwCl (tyM K) (wM K) A s σ H locs) : W p l e rMX12_keep_0 s m args below meth c H locs 0 0 (MQ below (gw_Qv (kD K) vwCl (tyM K) (wM K) A o) args s rMX12_keep_0.cells rMX12_keep_0.slots A) (F0 m 34 ls []) := by
  have hx := F.1
  have hb := F.2.1
  have hml := F.2.2.2.1
  have hown := F.2.2.2.2.1
  have hts := F.2.2.2.2.2.1
  have hG : ∀ x ∈ gT, x.before args s = true := fun x h => hts x (List.mem_cons_of_mem _ h)
  unfold fMX12_keep_0_34 at hf
  refine lv_iload hx hb dX12_keep_34 (lv_at hl 4 rfl) ?_
  refine lv_iload_n hx hb dX12_keep_36 rfl (lv_at hl 2 rfl) ?_
  refine lv_iconst (v := (1 : Int32)) hx hb dX12_keep_37 (by decide) ?_
  refine lv_isub hx hb dX12_keep_38 ?_
  refine lv_icmp_ne (tgt := 49) hx hb dX12_keep_39 (by decide) (fun c39 => ?_) (fun c39 => ?_)
  · replace hf := (if_neg c39).symm.trans hf
    exact wMX12_keep_0_49 F hk10 x1 x2 x3 x4 _ _ hf _ _ _ (lv_sub hl [0, 1, 2, 3, 4] rfl) hW
  · replace hf := (if_pos c39).symm.trans hf
    refine lv_aload_n hx hb dX12_keep_42 rfl (lv_at hl 0 rfl) ?_
    refine gw_get (v := .ref (ka K 12)) F inc_X12 hW 0 10 21 (aM_0 K σ) rfl (by decide) (hG _ q_6_133) (fun _ h9 => h9) rfl dX12_keep_43 ?_
    refine lv_iload_n hx hb dX12_keep_46 rfl (lv_at hl 1 rfl) ?_
    refine lv_iload_n hx hb dX12_keep_47 rfl (lv_at hl 3 rfl) ?_
    rcases Decidable.em (x1 < 0 ∨ 2100 ≤ x1.toNatClampNeg) with c41 | c41
    · replace hf := (if_pos c41).symm.trans hf
      exact absurd hf (by simp)
    · replace hf := (if_neg c41).symm.trans hf
      refine gw_iast (σ' := (stA σ 11 x1.toNatClampNeg x3)) F hW 12 11 (aM_12 K σ) rfl c41 dX12_keep_48 (sAM_11 _ _ _) (fun H locs hW => ?_)
      exact wMX12_keep_0_49 F hk10 x1 x2 x3 x4 _ _ hf _ _ _ (lv_sub hl [0, 1, 2, 3, 4] rfl) hW
set_option maxHeartbeats 4000000 in
set_option maxRecDepth 100000 in
theorem wMX12_keep_0_10 {p : Program} {l : Launch} {e : Env} {s : State} {m : MethodId} {args : Array Value} {below : List Frame} {meth : Method} {c : Code} {A : Nat → Prop} {K : KX} (F : fx_ p s m args meth c cX12_keep 8 none RX12 wsX12_keep) {k10 : (Int32 × Int32 × Int32 × Int32 × XS) → Option XS} (hk10 : ∀ t o, k10 t = some o → PMX12_keep_0_10 p l e s m args below meth c A K t o) (x1 : Int32) (x2 : Int32) (x3 : Int32) (x4 : Int32) (σ : XS) (o : XS) (hf : fMX12_keep_0_10 (kn K) k10 x1 x2 x3 x4 σ = some o) (H : Heap) (locs : List Loc) (ls : Array Slot) (hl : lv_has ls 8 [(0, .ref (ka K 0)), (1, .int x1), (2, .int x2), (3, .int x3), (4, .int x4)]) (hW : gw_ (kD K) vwCl (tyM K) (wM K) A s σ H locs) : W p l e rMX12_keep_0 s m args below meth c H locs 0 0 (MQ below (gw_Qv (kD K) vwCl (tyM K) (wM K) A o) args s rMX12_keep_0.cells rMX12_keep_0.slots A) (F0 m 10 ls []) := by
  have hx := F.1
  have hb := F.2.1
  have hml := F.2.2.2.1
  have hown := F.2.2.2.2.1
  have hts := F.2.2.2.2.2.1
  have hG : ∀ x ∈ gT, x.before args s = true := fun x h => hts x (List.mem_cons_of_mem _ h)
  unfold fMX12_keep_0_10 at hf
  refine lv_iload hx hb dX12_keep_10 (lv_at hl 4 rfl) ?_
  refine lv_aload_n hx hb dX12_keep_12 rfl (lv_at hl 0 rfl) ?_
  refine gw_get (v := .ref (ka K 10)) F inc_X12 hW 0 10 19 (aM_0 K σ) rfl (by decide) (hG _ q_6_131) (fun _ h9 => h9) rfl dX12_keep_13 ?_
  refine lv_iload_n hx hb dX12_keep_16 rfl (lv_at hl 1 rfl) ?_
  rcases Decidable.em (x1 < 0 ∨ 2100 ≤ x1.toNatClampNeg) with c2 | c2
  · replace hf := (if_pos c2).symm.trans hf
    exact absurd hf (by simp)
  · replace hf := (if_neg c2).symm.trans hf
    refine gw_iald F hW 10 9 (aM_10 K σ) rfl c2 dX12_keep_17 ?_
    refine lv_icmp_ge (tgt := 62) hx hb dX12_keep_18 (by decide) (fun c3 => ?_) (fun c3 => ?_)
    · replace hf := (if_pos c3).symm.trans hf
      refine lv_aload_n hx hb dX12_keep_62 rfl (lv_at hl 0 rfl) ?_
      refine gw_get (v := .ref (ka K 15)) F inc_X12 hW 0 10 24 (aM_0 K σ) rfl (by decide) (hG _ q_6_136) (fun _ h9 => h9) rfl dX12_keep_63 ?_
      refine lv_iload_n hx hb dX12_keep_66 rfl (lv_at hl 1 rfl) ?_
      rcases Decidable.em (x1 < 0 ∨ 2100 ≤ x1.toNatClampNeg) with c4 | c4
      · replace hf := (if_pos c4).symm.trans hf
        exact absurd hf (by simp)
      · replace hf := (if_neg c4).symm.trans hf
        refine gw_iald F hW 15 14 (aM_15 K σ) rfl c4 dX12_keep_67 ?_
        refine lv_istore (lv' := [(4, .int (σ.2.1 14 x1.toNatClampNeg)), (0, .ref (ka K 0)), (1, .int x1), (2, .int x2), (3, .int x3)]) hx hb dX12_keep_68 hl (by decide) rfl (fun ls hl => ?_)
        refine lv_iload_n hx hb dX12_keep_70 rfl (lv_at hl 3 rfl) ?_
        refine lv_sipush (v := (268 : Int32)) hx hb dX12_keep_71 (by decide) ?_
        refine lv_icmp_le (tgt := 91) hx hb dX12_keep_74 (by decide) (fun c5 => ?_) (fun c5 => ?_)
        · replace hf := (if_pos c5).symm.trans hf
          refine lv_iconst (v := (0 : Int32)) hx hb dX12_keep_91 (by decide) ?_
          exact wMX12_keep_0_92 F x1 x2 (σ.2.1 14 x1.toNatClampNeg) (0 : Int32) _ _ hf _ _ _ (lv_sub hl [1, 2, 3, 0] rfl) hW
        · replace hf := (if_neg c5).symm.trans hf
          refine lv_iload_n hx hb dX12_keep_77 rfl (lv_at hl 3 rfl) ?_
          refine lv_sipush (v := (268 : Int32)) hx hb dX12_keep_78 (by decide) ?_
          refine lv_isub hx hb dX12_keep_81 ?_
          refine lv_sipush (v := (256 : Int32)) hx hb dX12_keep_82 (by decide) ?_
          obtain ⟨o35, h36, hf⟩ := gw_bind hf
          refine gw_Si (As := [.int (x2 - (268 : Int32)), .int (256 : Int32)]) (mc' := 0) (ms' := 0) F hW (mMX12_parts h36) (va_cwS 2 hts (gT_S q_6_230 q_6_231 q_1_12 q_6_232) rfl rfl rfl hdX12_parts.2 ⟨Nat.le_of_ble_eq_true rfl, Nat.le_of_ble_eq_true rfl⟩) rfl hl.1 rfl (Nat.le_of_ble_eq_true rfl) dX12_keep_85 ⟨Nat.le_of_ble_eq_true rfl, Nat.le_of_ble_eq_true rfl⟩ rfl rfl (fun H locs hW => ?_)
          refine lv_goto (tgt := 92) hx hb dX12_keep_88 (by decide) ?_
          exact wMX12_keep_0_92 F x1 x2 (σ.2.1 14 x1.toNatClampNeg) o35.1 _ _ hf _ _ _ (lv_sub hl [1, 2, 3, 0] rfl) hW
    · replace hf := (if_neg c3).symm.trans hf
      refine lv_iload hx hb dX12_keep_21 (lv_at hl 4 rfl) ?_
      refine lv_iload_n hx hb dX12_keep_23 rfl (lv_at hl 2 rfl) ?_
      refine lv_icmp_lt (tgt := 34) hx hb dX12_keep_24 (by decide) (fun c38 => ?_) (fun c38 => ?_)
      · replace hf := (if_pos c38).symm.trans hf
        exact wMX12_keep_0_34 F hk10 x1 x2 x3 x4 _ _ hf _ _ _ (lv_sub hl [0, 1, 2, 3, 4] rfl) hW
      · replace hf := (if_neg c38).symm.trans hf
        refine lv_aload_n hx hb dX12_keep_27 rfl (lv_at hl 0 rfl) ?_
        refine gw_get (v := .ref (ka K 5)) F inc_X12 hW 0 10 14 (aM_0 K σ) rfl (by decide) (hG _ q_6_126) (fun _ h9 => h9) rfl dX12_keep_28 ?_
        refine lv_iload_n hx hb dX12_keep_31 rfl (lv_at hl 3 rfl) ?_
        refine lv_iconst (v := (0 : Int32)) hx hb dX12_keep_32 (by decide) ?_
        rcases Decidable.em (x3 < 0 ∨ 512 ≤ x3.toNatClampNeg) with c42 | c42
        · replace hf := (if_pos c42).symm.trans hf
          exact absurd hf (by simp)
        · replace hf := (if_neg c42).symm.trans hf
          refine gw_zast (σ' := (stA σ 4 x3.toNatClampNeg (vp_nar .boolean (0 : Int32)))) F hW 5 4 (aM_5 K σ) rfl c42 dX12_keep_33 (sAM_4 _ _ _) (fun H locs hW => ?_)
          exact wMX12_keep_0_34 F hk10 x1 x2 x3 x4 _ _ hf _ _ _ (lv_sub hl [0, 1, 2, 3, 4] rfl) hW
set_option maxHeartbeats 4000000 in
set_option maxRecDepth 100000 in
theorem wMX12_keep_0_0 {p : Program} {l : Launch} {e : Env} {s : State} {m : MethodId} {args : Array Value} {below : List Frame} {meth : Method} {c : Code} {A : Nat → Prop} {K : KX} (F : fx_ p s m args meth c cX12_keep 8 none RX12 wsX12_keep) (x1 : Int32) (x2 : Int32) (σ : XS) (o : XS) (hf : fMX12_keep_0_0 (kn K) x1 x2 σ = some o) (H : Heap) (locs : List Loc) (ls : Array Slot) (hl : lv_has ls 8 [(0, .ref (ka K 0)), (1, .int x1), (2, .int x2)]) (hW : gw_ (kD K) vwCl (tyM K) (wM K) A s σ H locs) : W p l e rMX12_keep_0 s m args below meth c H locs 0 0 (MQ below (gw_Qv (kD K) vwCl (tyM K) (wM K) A o) args s rMX12_keep_0.cells rMX12_keep_0.slots A) (F0 m 0 ls []) := by
  have hx := F.1
  have hb := F.2.1
  have hml := F.2.2.2.1
  have hown := F.2.2.2.2.1
  have hts := F.2.2.2.2.2.1
  have hG : ∀ x ∈ gT, x.before args s = true := fun x h => hts x (List.mem_cons_of_mem _ h)
  unfold fMX12_keep_0_0 at hf
  refine lv_aload_n hx hb dX12_keep_0 rfl (lv_at hl 0 rfl) ?_
  refine gw_get (v := .ref (ka K 11)) F inc_X12 hW 0 10 20 (aM_0 K σ) rfl (by decide) (hG _ q_6_132) (fun _ h9 => h9) rfl dX12_keep_1 ?_
  refine lv_iload_n hx hb dX12_keep_4 rfl (lv_at hl 1 rfl) ?_
  rcases Decidable.em (x1 < 0 ∨ 2100 ≤ x1.toNatClampNeg) with c1 | c1
  · replace hf := (if_pos c1).symm.trans hf
    exact absurd hf (by simp)
  · replace hf := (if_neg c1).symm.trans hf
    refine gw_iald F hW 11 10 (aM_11 K σ) rfl c1 dX12_keep_5 ?_
    refine lv_istore_n (lv' := [(3, .int (σ.2.1 10 x1.toNatClampNeg)), (0, .ref (ka K 0)), (1, .int x1), (2, .int x2)]) hx hb dX12_keep_6 rfl hl (by decide) rfl (fun ls hl => ?_)
    refine lv_iconst (v := (0 : Int32)) hx hb dX12_keep_7 (by decide) ?_
    refine lv_istore (lv' := [(4, .int (0 : Int32)), (3, .int (σ.2.1 10 x1.toNatClampNeg)), (0, .ref (ka K 0)), (1, .int x1), (2, .int x2)]) hx hb dX12_keep_8 hl (by decide) rfl (fun ls hl => ?_)
    exact lfix_ind (P := PMX12_keep_0_10 p l e s m args below meth c A K) (fun k10 hk10 t o hf => wMX12_keep_0_10 F hk10 t.1 t.2.1 t.2.2.1 t.2.2.2.1 t.2.2.2.2 o hf) FU _ _ hf _ _ _ (lv_sub hl [2, 3, 4, 1, 0] rfl) hW
set_option maxHeartbeats 4000000 in
set_option maxRecDepth 100000 in
theorem mMX12_keep_0 {l : Launch} {K : KX} {σ : XS} {x1 : Int32} {x2 : Int32} {o : XS} (hf : fMX12_keep_0 (kn K) x1 x2 σ = some o) : gw_Mv l (kD K) vwCl (tyM K) (wM K) yX12_keep wsX12_keep rMX12_keep_0 [.ref (ka K 0), .int x1, .int x2] σ o := by
  intro sz
  refine gw_body (cc := cX12_keep) (maxL := 8) (yret := none) (by decide +kernel) rfl ?_ (Nat.le_of_ble_eq_true rfl)
  intro p e s m below meth c F hsz hW ls hl
  exact wMX12_keep_0_0 F x1 x2 σ o hf s.heap [] ls hl hW
abbrev rMX12_one_0 : Room := { frames := 0, cells := 0, slots := 0, locals := 0 }
set_option maxHeartbeats 4000000 in
set_option maxRecDepth 100000 in
theorem wMX12_one_0_0 {p : Program} {l : Launch} {e : Env} {s : State} {m : MethodId} {args : Array Value} {below : List Frame} {meth : Method} {c : Code} {A : Nat → Prop} {K : KX} (F : fx_ p s m args meth c cX12_one 2 (some .int) RX12 wsX12_one) (x1 : Int32) (σ : XS) (o : (Int32 × XS)) (hf : fMX12_one_0_0 (kn K) x1 σ = some o) (H : Heap) (locs : List Loc) (ls : Array Slot) (hl : lv_has ls 2 [(0, .ref (ka K 0)), (1, .int x1)]) (hW : gw_ (kD K) vwCl (tyM K) (wM K) A s σ H locs) : W p l e rMX12_one_0 s m args below meth c H locs 0 0 (MQ below (gw_Qi (kD K) vwCl (tyM K) (wM K) A o) args s rMX12_one_0.cells rMX12_one_0.slots A) (F0 m 0 ls []) := by
  have hx := F.1
  have hb := F.2.1
  have hml := F.2.2.2.1
  have hown := F.2.2.2.2.1
  have hts := F.2.2.2.2.2.1
  have hG : ∀ x ∈ gT, x.before args s = true := fun x h => hts x (List.mem_cons_of_mem _ h)
  unfold fMX12_one_0_0 at hf
  refine lv_aload_n hx hb dX12_one_0 rfl (lv_at hl 0 rfl) ?_
  refine gw_get (v := .ref (ka K 1)) F inc_X12 hW 0 10 2 (aM_0 K σ) rfl (by decide) (hG _ q_6_114) (fun _ h9 => h9) rfl dX12_one_1 ?_
  refine lv_iload_n hx hb dX12_one_4 rfl (lv_at hl 1 rfl) ?_
  rcases Decidable.em (x1 < 0 ∨ 524288 ≤ x1.toNatClampNeg) with c1 | c1
  · replace hf := (if_pos c1).symm.trans hf
    exact absurd hf (by simp)
  · replace hf := (if_neg c1).symm.trans hf
    refine gw_bald F hW 1 0 (aM_1 K σ) rfl c1 dX12_one_5 ?_
    refine lv_sipush (v := (255 : Int32)) hx hb dX12_one_6 (by decide) ?_
    refine lv_iand hx hb dX12_one_9 ?_
    exact gw_reti F hW hf dX12_one_10
set_option maxHeartbeats 4000000 in
set_option maxRecDepth 100000 in
theorem mMX12_one_0 {l : Launch} {K : KX} {σ : XS} {x1 : Int32} {o : (Int32 × XS)} (hf : fMX12_one_0 (kn K) x1 σ = some o) : gw_Mi l (kD K) vwCl (tyM K) (wM K) yX12_one wsX12_one rMX12_one_0 [.ref (ka K 0), .int x1] σ o := by
  intro sz
  refine gw_body (cc := cX12_one) (maxL := 2) (yret := some .int) (by decide +kernel) rfl ?_ (Nat.le_of_ble_eq_true rfl)
  intro p e s m below meth c F hsz hW ls hl
  exact wMX12_one_0_0 F x1 σ o hf s.heap [] ls hl hW
abbrev rMX12_two_0 : Room := { frames := 1, cells := 0, slots := 0, locals := 21 }
set_option maxHeartbeats 4000000 in
set_option maxRecDepth 100000 in
theorem wMX12_two_0_0 {p : Program} {l : Launch} {e : Env} {s : State} {m : MethodId} {args : Array Value} {below : List Frame} {meth : Method} {c : Code} {A : Nat → Prop} {K : KX} (F : fx_ p s m args meth c cX12_two 2 (some .int) RX12 wsX12_two) (x1 : Int32) (σ : XS) (o : (Int32 × XS)) (hf : fMX12_two_0_0 (kn K) x1 σ = some o) (H : Heap) (locs : List Loc) (ls : Array Slot) (hl : lv_has ls 2 [(0, .ref (ka K 0)), (1, .int x1)]) (hW : gw_ (kD K) vwCl (tyM K) (wM K) A s σ H locs) : W p l e rMX12_two_0 s m args below meth c H locs 0 0 (MQ below (gw_Qi (kD K) vwCl (tyM K) (wM K) A o) args s rMX12_two_0.cells rMX12_two_0.slots A) (F0 m 0 ls []) := by
  have hx := F.1
  have hb := F.2.1
  have hml := F.2.2.2.1
  have hown := F.2.2.2.2.1
  have hts := F.2.2.2.2.2.1
  have hG : ∀ x ∈ gT, x.before args s = true := fun x h => hts x (List.mem_cons_of_mem _ h)
  unfold fMX12_two_0_0 at hf
  refine lv_aload_n hx hb dX12_two_0 rfl (lv_at hl 0 rfl) ?_
  refine lv_iload_n hx hb dX12_two_1 rfl (lv_at hl 1 rfl) ?_
  obtain ⟨o1, h2, hf⟩ := gw_bind hf
  refine gw_Vi (As := [.int x1]) (mc' := 0) (ms' := 0) F hW (mMX12_one_0 h2) (cwV 1 hts (gT_V q_7_107 q_7_109 qp_57 q_1_12 q_7_110) rfl rfl rfl hdX12_one ⟨Nat.le_of_ble_eq_true rfl, Nat.le_of_ble_eq_true rfl⟩) 0 10 (aM_0 K σ) rfl rfl hl.1 rfl (Nat.le_of_ble_eq_true rfl) dX12_two_2 ⟨Nat.le_of_ble_eq_true rfl, Nat.le_of_ble_eq_true rfl⟩ rfl rfl (fun H locs hW => ?_)
  refine lv_sipush (v := (256 : Int32)) hx hb dX12_two_5 (by decide) ?_
  refine lv_aload_n hx hb dX12_two_8 rfl (lv_at hl 0 rfl) ?_
  refine lv_iload_n hx hb dX12_two_9 rfl (lv_at hl 1 rfl) ?_
  refine lv_iconst (v := (1 : Int32)) hx hb dX12_two_10 (by decide) ?_
  refine lv_iadd hx hb dX12_two_11 ?_
  obtain ⟨o4, h5, hf⟩ := gw_bind hf
  refine gw_Vi (As := [.int (x1 + (1 : Int32))]) (mc' := 0) (ms' := 0) F hW (mMX12_one_0 h5) (cwV 1 hts (gT_V q_7_107 q_7_109 qp_57 q_1_12 q_7_110) rfl rfl rfl hdX12_one ⟨Nat.le_of_ble_eq_true rfl, Nat.le_of_ble_eq_true rfl⟩) 0 10 (aM_0 K o1.2) rfl rfl hl.1 rfl (Nat.le_of_ble_eq_true rfl) dX12_two_12 ⟨Nat.le_of_ble_eq_true rfl, Nat.le_of_ble_eq_true rfl⟩ rfl rfl (fun H locs hW => ?_)
  refine lv_imul hx hb dX12_two_15 ?_
  refine lv_iadd hx hb dX12_two_16 ?_
  exact gw_reti F hW hf dX12_two_17
set_option maxHeartbeats 4000000 in
set_option maxRecDepth 100000 in
theorem mMX12_two_0 {l : Launch} {K : KX} {σ : XS} {x1 : Int32} {o : (Int32 × XS)} (hf : fMX12_two_0 (kn K) x1 σ = some o) : gw_Mi l (kD K) vwCl (tyM K) (wM K) yX12_two wsX12_two rMX12_two_0 [.ref (ka K 0), .int x1] σ o := by
  intro sz
  refine gw_body (cc := cX12_two) (maxL := 2) (yret := some .int) (by decide +kernel) rfl ?_ (Nat.le_of_ble_eq_true rfl)
  intro p e s m below meth c F hsz hW ls hl
  exact wMX12_two_0_0 F x1 σ o hf s.heap [] ls hl hW
abbrev rMX12_four_0 : Room := { frames := 2, cells := 0, slots := 0, locals := 42 }
set_option maxHeartbeats 4000000 in
set_option maxRecDepth 100000 in
theorem wMX12_four_0_0 {p : Program} {l : Launch} {e : Env} {s : State} {m : MethodId} {args : Array Value} {below : List Frame} {meth : Method} {c : Code} {A : Nat → Prop} {K : KX} (F : fx_ p s m args meth c cX12_four 2 (some .int) RX12 wsX12_four) (x1 : Int32) (σ : XS) (o : (Int32 × XS)) (hf : fMX12_four_0_0 (kn K) x1 σ = some o) (H : Heap) (locs : List Loc) (ls : Array Slot) (hl : lv_has ls 2 [(0, .ref (ka K 0)), (1, .int x1)]) (hW : gw_ (kD K) vwCl (tyM K) (wM K) A s σ H locs) : W p l e rMX12_four_0 s m args below meth c H locs 0 0 (MQ below (gw_Qi (kD K) vwCl (tyM K) (wM K) A o) args s rMX12_four_0.cells rMX12_four_0.slots A) (F0 m 0 ls []) := by
  have hx := F.1
  have hb := F.2.1
  have hml := F.2.2.2.1
  have hown := F.2.2.2.2.1
  have hts := F.2.2.2.2.2.1
  have hG : ∀ x ∈ gT, x.before args s = true := fun x h => hts x (List.mem_cons_of_mem _ h)
  unfold fMX12_four_0_0 at hf
  refine lv_aload_n hx hb dX12_four_0 rfl (lv_at hl 0 rfl) ?_
  refine lv_iload_n hx hb dX12_four_1 rfl (lv_at hl 1 rfl) ?_
  obtain ⟨o1, h2, hf⟩ := gw_bind hf
  refine gw_Vi (As := [.int x1]) (mc' := 0) (ms' := 0) F hW (mMX12_two_0 h2) (cwV 1 hts (gT_V q_7_103 q_7_105 qp_56 q_1_12 q_7_106) rfl rfl rfl hdX12_two ⟨Nat.le_of_ble_eq_true rfl, Nat.le_of_ble_eq_true rfl⟩) 0 10 (aM_0 K σ) rfl rfl hl.1 rfl (Nat.le_of_ble_eq_true rfl) dX12_four_2 ⟨Nat.le_of_ble_eq_true rfl, Nat.le_of_ble_eq_true rfl⟩ rfl rfl (fun H locs hW => ?_)
  refine lv_ldc (own := RX12) (v := (65536 : Int32)) hx hb hown (hts _ (List.mem_cons_of_mem _ q_7_111)) dX12_four_5 ?_
  refine lv_aload_n hx hb dX12_four_7 rfl (lv_at hl 0 rfl) ?_
  refine lv_iload_n hx hb dX12_four_8 rfl (lv_at hl 1 rfl) ?_
  refine lv_iconst (v := (2 : Int32)) hx hb dX12_four_9 (by decide) ?_
  refine lv_iadd hx hb dX12_four_10 ?_
  obtain ⟨o4, h5, hf⟩ := gw_bind hf
  refine gw_Vi (As := [.int (x1 + (2 : Int32))]) (mc' := 0) (ms' := 0) F hW (mMX12_two_0 h5) (cwV 1 hts (gT_V q_7_103 q_7_105 qp_56 q_1_12 q_7_106) rfl rfl rfl hdX12_two ⟨Nat.le_of_ble_eq_true rfl, Nat.le_of_ble_eq_true rfl⟩) 0 10 (aM_0 K o1.2) rfl rfl hl.1 rfl (Nat.le_of_ble_eq_true rfl) dX12_four_11 ⟨Nat.le_of_ble_eq_true rfl, Nat.le_of_ble_eq_true rfl⟩ rfl rfl (fun H locs hW => ?_)
  refine lv_imul hx hb dX12_four_14 ?_
  refine lv_iadd hx hb dX12_four_15 ?_
  exact gw_reti F hW hf dX12_four_16
set_option maxHeartbeats 4000000 in
set_option maxRecDepth 100000 in
theorem mMX12_four_0 {l : Launch} {K : KX} {σ : XS} {x1 : Int32} {o : (Int32 × XS)} (hf : fMX12_four_0 (kn K) x1 σ = some o) : gw_Mi l (kD K) vwCl (tyM K) (wM K) yX12_four wsX12_four rMX12_four_0 [.ref (ka K 0), .int x1] σ o := by
  intro sz
  refine gw_body (cc := cX12_four) (maxL := 2) (yret := some .int) (by decide +kernel) rfl ?_ (Nat.le_of_ble_eq_true rfl)
  intro p e s m below meth c F hsz hW ls hl
  exact wMX12_four_0_0 F x1 σ o hf s.heap [] ls hl hW
abbrev rMX12_set_0 : Room := { frames := 0, cells := 0, slots := 0, locals := 0 }
def PMX12_set_0_3 (p : Program) (l : Launch) (e : Env) (s : State) (m : MethodId) (args : Array Value) (below : List Frame) (meth : Method) (c : Code) (A : Nat → Prop) (K : KX) (t : (Int32 × Int32 × Int32 × Int32 × XS)) (o : XS) : Prop := ∀ (H : Heap) (locs : List Loc) (ls : Array Slot), lv_has ls 5 [(0, .ref (ka K 0)), (1, .int t.1), (2, .int t.2.1), (3, .int t.2.2.1), (4, .int t.2.2.2.1)] → gw_ (kD K) vwCl (tyM K) (wM K) A s t.2.2.2.2 H locs → W p l e rMX12_set_0 s m args below meth c H locs 0 0 (MQ below (gw_Qv (kD K) vwCl (tyM K) (wM K) A o) args s rMX12_set_0.cells rMX12_set_0.slots A) (F0 m 3 ls [])
set_option maxHeartbeats 4000000 in
set_option maxRecDepth 100000 in
theorem wMX12_set_0_3 {p : Program} {l : Launch} {e : Env} {s : State} {m : MethodId} {args : Array Value} {below : List Frame} {meth : Method} {c : Code} {A : Nat → Prop} {K : KX} (F : fx_ p s m args meth c cX12_set 5 none RX12 wsX12_set) {k3 : (Int32 × Int32 × Int32 × Int32 × XS) → Option XS} (hk3 : ∀ t o, k3 t = some o → PMX12_set_0_3 p l e s m args below meth c A K t o) (x1 : Int32) (x2 : Int32) (x3 : Int32) (x4 : Int32) (σ : XS) (o : XS) (hf : fMX12_set_0_3 (kn K) k3 x1 x2 x3 x4 σ = some o) (H : Heap) (locs : List Loc) (ls : Array Slot) (hl : lv_has ls 5 [(0, .ref (ka K 0)), (1, .int x1), (2, .int x2), (3, .int x3), (4, .int x4)]) (hW : gw_ (kD K) vwCl (tyM K) (wM K) A s σ H locs) : W p l e rMX12_set_0 s m args below meth c H locs 0 0 (MQ below (gw_Qv (kD K) vwCl (tyM K) (wM K) A o) args s rMX12_set_0.cells rMX12_set_0.slots A) (F0 m 3 ls []) := by
  have hx := F.1
  have hb := F.2.1
  have hml := F.2.2.2.1
  have hown := F.2.2.2.2.1
  have hts := F.2.2.2.2.2.1
  have hG : ∀ x ∈ gT, x.before args s = true := fun x h => hts x (List.mem_cons_of_mem _ h)
  unfold fMX12_set_0_3 at hf
  refine lv_iload hx hb dX12_set_3 (lv_at hl 4 rfl) ?_
  refine lv_iload_n hx hb dX12_set_5 rfl (lv_at hl 2 rfl) ?_
  refine lv_icmp_ge (tgt := 32) hx hb dX12_set_6 (by decide) (fun c1 => ?_) (fun c1 => ?_)
  · replace hf := (if_pos c1).symm.trans hf
    exact gw_retv F hW hf dX12_set_32
  · replace hf := (if_neg c1).symm.trans hf
    refine lv_aload_n hx hb dX12_set_9 rfl (lv_at hl 0 rfl) ?_
    refine gw_get (v := .ref (ka K 1)) F inc_X12 hW 0 10 2 (aM_0 K σ) rfl (by decide) (hG _ q_6_114) (fun _ h9 => h9) rfl dX12_set_10 ?_
    refine lv_iload_n hx hb dX12_set_13 rfl (lv_at hl 1 rfl) ?_
    refine lv_iload hx hb dX12_set_14 (lv_at hl 4 rfl) ?_
    refine lv_iadd hx hb dX12_set_16 ?_
    refine lv_iload_n hx hb dX12_set_17 rfl (lv_at hl 3 rfl) ?_
    refine lv_bipush (v := (8 : Int32)) hx hb dX12_set_18 (by decide) ?_
    refine lv_iload hx hb dX12_set_20 (lv_at hl 4 rfl) ?_
    refine lv_imul hx hb dX12_set_22 ?_
    refine lv_ishr hx hb dX12_set_23 ?_
    refine lv_i2b (v := (x3 >>> (((8 : Int32) * x4) &&& 31)).toInt8.toInt32) hx hb dX12_set_24 rfl ?_
    rcases Decidable.em ((x1 + x4) < 0 ∨ 524288 ≤ (x1 + x4).toNatClampNeg) with c2 | c2
    · replace hf := (if_pos c2).symm.trans hf
      exact absurd hf (by simp)
    · replace hf := (if_neg c2).symm.trans hf
      refine gw_bast (σ' := (stA σ 0 (x1 + x4).toNatClampNeg (vp_nar .byte ((x3 >>> (((8 : Int32) * x4) &&& 31)).toInt8.toInt32)))) F hW 1 0 (aM_1 K σ) rfl c2 dX12_set_25 (sAM_0 _ _ _) (fun H locs hW => ?_)
      refine lv_iinc (v := (x4 + (1 : Int32))) (lv' := [(4, .int (x4 + (1 : Int32))), (0, .ref (ka K 0)), (1, .int x1), (2, .int x2), (3, .int x3)]) hx hb dX12_set_26 hl (k := 4) rfl rfl (by decide) rfl (fun ls hl => ?_)
      refine lv_goto (tgt := 3) hx hb dX12_set_29 (by decide) ?_
      exact hk3 _ _ hf _ _ _ (lv_sub hl [1, 2, 3, 4, 0] rfl) hW
set_option maxHeartbeats 4000000 in
set_option maxRecDepth 100000 in
theorem wMX12_set_0_0 {p : Program} {l : Launch} {e : Env} {s : State} {m : MethodId} {args : Array Value} {below : List Frame} {meth : Method} {c : Code} {A : Nat → Prop} {K : KX} (F : fx_ p s m args meth c cX12_set 5 none RX12 wsX12_set) (x1 : Int32) (x2 : Int32) (x3 : Int32) (σ : XS) (o : XS) (hf : fMX12_set_0_0 (kn K) x1 x2 x3 σ = some o) (H : Heap) (locs : List Loc) (ls : Array Slot) (hl : lv_has ls 5 [(0, .ref (ka K 0)), (1, .int x1), (2, .int x2), (3, .int x3)]) (hW : gw_ (kD K) vwCl (tyM K) (wM K) A s σ H locs) : W p l e rMX12_set_0 s m args below meth c H locs 0 0 (MQ below (gw_Qv (kD K) vwCl (tyM K) (wM K) A o) args s rMX12_set_0.cells rMX12_set_0.slots A) (F0 m 0 ls []) := by
  have hx := F.1
  have hb := F.2.1
  have hml := F.2.2.2.1
  have hown := F.2.2.2.2.1
  have hts := F.2.2.2.2.2.1
  have hG : ∀ x ∈ gT, x.before args s = true := fun x h => hts x (List.mem_cons_of_mem _ h)
  unfold fMX12_set_0_0 at hf
  refine lv_iconst (v := (0 : Int32)) hx hb dX12_set_0 (by decide) ?_
  refine lv_istore (lv' := [(4, .int (0 : Int32)), (0, .ref (ka K 0)), (1, .int x1), (2, .int x2), (3, .int x3)]) hx hb dX12_set_1 hl (by decide) rfl (fun ls hl => ?_)
  exact lfix_ind (P := PMX12_set_0_3 p l e s m args below meth c A K) (fun k3 hk3 t o hf => wMX12_set_0_3 F hk3 t.1 t.2.1 t.2.2.1 t.2.2.2.1 t.2.2.2.2 o hf) FU _ _ hf _ _ _ (lv_sub hl [1, 2, 3, 4, 0] rfl) hW
set_option maxHeartbeats 4000000 in
set_option maxRecDepth 100000 in
theorem mMX12_set_0 {l : Launch} {K : KX} {σ : XS} {x1 : Int32} {x2 : Int32} {x3 : Int32} {o : XS} (hf : fMX12_set_0 (kn K) x1 x2 x3 σ = some o) : gw_Mv l (kD K) vwCl (tyM K) (wM K) yX12_set wsX12_set rMX12_set_0 [.ref (ka K 0), .int x1, .int x2, .int x3] σ o := by
  intro sz
  refine gw_body (cc := cX12_set) (maxL := 5) (yret := none) (by decide +kernel) rfl ?_ (Nat.le_of_ble_eq_true rfl)
  intro p e s m below meth c F hsz hW ls hl
  exact wMX12_set_0_0 F x1 x2 x3 σ o hf s.heap [] ls hl hW
abbrev rMX12_entry_0 : Room := { frames := 1, cells := 0, slots := 0, locals := 24 }
def PMX12_entry_0_84 (p : Program) (l : Launch) (e : Env) (s : State) (m : MethodId) (args : Array Value) (below : List Frame) (meth : Method) (c : Code) (A : Nat → Prop) (K : KX) (t : (Int32 × Int32 × XS)) (o : XS) : Prop := ∀ (H : Heap) (locs : List Loc) (ls : Array Slot), lv_has ls 7 [(0, .ref (ka K 0)), (1, .int t.1), (6, .int t.2.1)] → gw_ (kD K) vwCl (tyM K) (wM K) A s t.2.2 H locs → W p l e rMX12_entry_0 s m args below meth c H locs 0 0 (MQ below (gw_Qv (kD K) vwCl (tyM K) (wM K) A o) args s rMX12_entry_0.cells rMX12_entry_0.slots A) (F0 m 84 ls [])
def PMX12_entry_0_18 (p : Program) (l : Launch) (e : Env) (s : State) (m : MethodId) (args : Array Value) (below : List Frame) (meth : Method) (c : Code) (A : Nat → Prop) (K : KX) (t : (Int32 × Int32 × Int32 × Int32 × Int32 × Int32 × XS)) (o : XS) : Prop := ∀ (H : Heap) (locs : List Loc) (ls : Array Slot), lv_has ls 7 [(0, .ref (ka K 0)), (1, .int t.1), (2, .int t.2.1), (3, .int t.2.2.1), (4, .int t.2.2.2.1), (5, .int t.2.2.2.2.1), (6, .int t.2.2.2.2.2.1)] → gw_ (kD K) vwCl (tyM K) (wM K) A s t.2.2.2.2.2.2 H locs → W p l e rMX12_entry_0 s m args below meth c H locs 0 0 (MQ below (gw_Qv (kD K) vwCl (tyM K) (wM K) A o) args s rMX12_entry_0.cells rMX12_entry_0.slots A) (F0 m 18 ls [])
set_option maxHeartbeats 4000000 in
set_option maxRecDepth 100000 in
theorem wMX12_entry_0_84 {p : Program} {l : Launch} {e : Env} {s : State} {m : MethodId} {args : Array Value} {below : List Frame} {meth : Method} {c : Code} {A : Nat → Prop} {K : KX} (F : fx_ p s m args meth c cX12_entry 7 none RX12 wsX12_entry) {k84 : (Int32 × Int32 × XS) → Option XS} (hk84 : ∀ t o, k84 t = some o → PMX12_entry_0_84 p l e s m args below meth c A K t o) (x1 : Int32) (x6 : Int32) (σ : XS) (o : XS) (hf : fMX12_entry_0_84 (kn K) k84 x1 x6 σ = some o) (H : Heap) (locs : List Loc) (ls : Array Slot) (hl : lv_has ls 7 [(0, .ref (ka K 0)), (1, .int x1), (6, .int x6)]) (hW : gw_ (kD K) vwCl (tyM K) (wM K) A s σ H locs) : W p l e rMX12_entry_0 s m args below meth c H locs 0 0 (MQ below (gw_Qv (kD K) vwCl (tyM K) (wM K) A o) args s rMX12_entry_0.cells rMX12_entry_0.slots A) (F0 m 84 ls []) := by
  have hx := F.1
  have hb := F.2.1
  have hml := F.2.2.2.1
  have hown := F.2.2.2.2.1
  have hts := F.2.2.2.2.2.1
  have hG : ∀ x ∈ gT, x.before args s = true := fun x h => hts x (List.mem_cons_of_mem _ h)
  unfold fMX12_entry_0_84 at hf
  refine lv_iload hx hb dX12_entry_84 (lv_at hl 2 rfl) ?_
  refine lv_aload_n hx hb dX12_entry_86 rfl (lv_at hl 0 rfl) ?_
  refine gw_get (v := .int (σ.1 12)) F inc_X12 hW 0 10 31 (aM_0 K σ) rfl (by decide) (hG _ q_6_143) (fun _ h9 => h9) rfl dX12_entry_87 ?_
  refine lv_icmp_ge (tgt := 119) hx hb dX12_entry_90 (by decide) (fun c17 => ?_) (fun c17 => ?_)
  · replace hf := (if_pos c17).symm.trans hf
    exact gw_retv F hW hf dX12_entry_119
  · replace hf := (if_neg c17).symm.trans hf
    refine lv_aload_n hx hb dX12_entry_93 rfl (lv_at hl 0 rfl) ?_
    refine gw_get (v := .ref (ka K 1)) F inc_X12 hW 0 10 2 (aM_0 K σ) rfl (by decide) (hG _ q_6_114) (fun _ h9 => h9) rfl dX12_entry_94 ?_
    refine lv_iload_n hx hb dX12_entry_97 rfl (lv_at hl 1 rfl) ?_
    refine lv_bipush (v := (8 : Int32)) hx hb dX12_entry_98 (by decide) ?_
    refine lv_iadd hx hb dX12_entry_100 ?_
    refine lv_iload hx hb dX12_entry_101 (lv_at hl 2 rfl) ?_
    refine lv_iadd hx hb dX12_entry_103 ?_
    refine lv_aload_n hx hb dX12_entry_104 rfl (lv_at hl 0 rfl) ?_
    refine gw_get (v := .ref (ka K 18)) F inc_X12 hW 0 10 30 (aM_0 K σ) rfl (by decide) (hG _ q_6_142) (fun _ h9 => h9) rfl dX12_entry_105 ?_
    refine lv_iload hx hb dX12_entry_108 (lv_at hl 2 rfl) ?_
    rcases Decidable.em (x6 < 0 ∨ 255 ≤ x6.toNatClampNeg) with c18 | c18
    · replace hf := (if_pos c18).symm.trans hf
      exact absurd hf (by simp)
    · replace hf := (if_neg c18).symm.trans hf
      refine gw_iald F hW 18 17 (aM_18 K σ) rfl c18 dX12_entry_110 ?_
      refine lv_i2b (v := (σ.2.1 17 x6.toNatClampNeg).toInt8.toInt32) hx hb dX12_entry_111 rfl ?_
      rcases Decidable.em (((x1 + (8 : Int32)) + x6) < 0 ∨ 524288 ≤ ((x1 + (8 : Int32)) + x6).toNatClampNeg) with c19 | c19
      · replace hf := (if_pos c19).symm.trans hf
        exact absurd hf (by simp)
      · replace hf := (if_neg c19).symm.trans hf
        refine gw_bast (σ' := (stA σ 0 ((x1 + (8 : Int32)) + x6).toNatClampNeg (vp_nar .byte ((σ.2.1 17 x6.toNatClampNeg).toInt8.toInt32)))) F hW 1 0 (aM_1 K σ) rfl c19 dX12_entry_112 (sAM_0 _ _ _) (fun H locs hW => ?_)
        refine lv_iinc (v := (x6 + (1 : Int32))) (lv' := [(6, .int (x6 + (1 : Int32))), (0, .ref (ka K 0)), (1, .int x1)]) hx hb dX12_entry_113 hl (k := 2) rfl rfl (by decide) rfl (fun ls hl => ?_)
        refine lv_goto (tgt := 84) hx hb dX12_entry_116 (by decide) ?_
        exact hk84 _ _ hf _ _ _ (lv_sub hl [1, 2, 0] rfl) hW
set_option maxHeartbeats 4000000 in
set_option maxRecDepth 100000 in
theorem wMX12_entry_0_18 {p : Program} {l : Launch} {e : Env} {s : State} {m : MethodId} {args : Array Value} {below : List Frame} {meth : Method} {c : Code} {A : Nat → Prop} {K : KX} (F : fx_ p s m args meth c cX12_entry 7 none RX12 wsX12_entry) {k18 : (Int32 × Int32 × Int32 × Int32 × Int32 × Int32 × XS) → Option XS} (hk18 : ∀ t o, k18 t = some o → PMX12_entry_0_18 p l e s m args below meth c A K t o) (x1 : Int32) (x2 : Int32) (x3 : Int32) (x4 : Int32) (x5 : Int32) (x6 : Int32) (σ : XS) (o : XS) (hf : fMX12_entry_0_18 (kn K) k18 x1 x2 x3 x4 x5 x6 σ = some o) (H : Heap) (locs : List Loc) (ls : Array Slot) (hl : lv_has ls 7 [(0, .ref (ka K 0)), (1, .int x1), (2, .int x2), (3, .int x3), (4, .int x4), (5, .int x5), (6, .int x6)]) (hW : gw_ (kD K) vwCl (tyM K) (wM K) A s σ H locs) : W p l e rMX12_entry_0 s m args below meth c H locs 0 0 (MQ below (gw_Qv (kD K) vwCl (tyM K) (wM K) A o) args s rMX12_entry_0.cells rMX12_entry_0.slots A) (F0 m 18 ls []) := by
  have hx := F.1
  have hb := F.2.1
  have hml := F.2.2.2.1
  have hown := F.2.2.2.2.1
  have hts := F.2.2.2.2.2.1
  have hG : ∀ x ∈ gT, x.before args s = true := fun x h => hts x (List.mem_cons_of_mem _ h)
  unfold fMX12_entry_0_18 at hf
  refine lv_iload hx hb dX12_entry_18 (lv_at hl 6 rfl) ?_
  refine lv_iload hx hb dX12_entry_20 (lv_at hl 5 rfl) ?_
  refine lv_icmp_ge (tgt := 41) hx hb dX12_entry_22 (by decide) (fun c4 => ?_) (fun c4 => ?_)
  · replace hf := (if_pos c4).symm.trans hf
    refine lv_aload_n hx hb dX12_entry_41 rfl (lv_at hl 0 rfl) ?_
    refine lv_iload_n hx hb dX12_entry_42 rfl (lv_at hl 1 rfl) ?_
    refine lv_iconst (v := (4 : Int32)) hx hb dX12_entry_43 (by decide) ?_
    refine lv_iload_n hx hb dX12_entry_44 rfl (lv_at hl 2 rfl) ?_
    obtain ⟨o5, h6, hf⟩ := gw_bind hf
    refine gw_Vv (As := [.int x1, .int (4 : Int32), .int x2]) (mc' := 0) (ms' := 0) F hW (mMX12_set_0 h6) (cwV 3 hts (gT_V q_7_17 q_7_19 qp_41 q_1_12 q_7_20) rfl rfl rfl hdX12_set ⟨Nat.le_of_ble_eq_true rfl, Nat.le_of_ble_eq_true rfl⟩) 0 10 (aM_0 K σ) rfl rfl hl.1 rfl (Nat.le_of_ble_eq_true rfl) dX12_entry_45 ⟨Nat.le_of_ble_eq_true rfl, Nat.le_of_ble_eq_true rfl⟩ rfl rfl (fun H locs hW => ?_)
    refine lv_aload_n hx hb dX12_entry_48 rfl (lv_at hl 0 rfl) ?_
    refine lv_iload_n hx hb dX12_entry_49 rfl (lv_at hl 1 rfl) ?_
    refine lv_iconst (v := (4 : Int32)) hx hb dX12_entry_50 (by decide) ?_
    refine lv_iadd hx hb dX12_entry_51 ?_
    refine lv_iconst (v := (2 : Int32)) hx hb dX12_entry_52 (by decide) ?_
    refine lv_iload_n hx hb dX12_entry_53 rfl (lv_at hl 3 rfl) ?_
    obtain ⟨o8, h9, hf⟩ := gw_bind hf
    refine gw_Vv (As := [.int (x1 + (4 : Int32)), .int (2 : Int32), .int x3]) (mc' := 0) (ms' := 0) F hW (mMX12_set_0 h9) (cwV 3 hts (gT_V q_7_17 q_7_19 qp_41 q_1_12 q_7_20) rfl rfl rfl hdX12_set ⟨Nat.le_of_ble_eq_true rfl, Nat.le_of_ble_eq_true rfl⟩) 0 10 (aM_0 K o5) rfl rfl hl.1 rfl (Nat.le_of_ble_eq_true rfl) dX12_entry_54 ⟨Nat.le_of_ble_eq_true rfl, Nat.le_of_ble_eq_true rfl⟩ rfl rfl (fun H locs hW => ?_)
    refine lv_aload_n hx hb dX12_entry_57 rfl (lv_at hl 0 rfl) ?_
    refine lv_iload_n hx hb dX12_entry_58 rfl (lv_at hl 1 rfl) ?_
    refine lv_bipush (v := (6 : Int32)) hx hb dX12_entry_59 (by decide) ?_
    refine lv_iadd hx hb dX12_entry_61 ?_
    refine lv_iconst (v := (1 : Int32)) hx hb dX12_entry_62 (by decide) ?_
    refine lv_aload_n hx hb dX12_entry_63 rfl (lv_at hl 0 rfl) ?_
    refine gw_get (v := .int (o8.1 12)) F inc_X12 hW 0 10 31 (aM_0 K o8) rfl (by decide) (hG _ q_6_143) (fun _ h9 => h9) rfl dX12_entry_64 ?_
    obtain ⟨o11, h12, hf⟩ := gw_bind hf
    refine gw_Vv (As := [.int (x1 + (6 : Int32)), .int (1 : Int32), .int (o8.1 12)]) (mc' := 0) (ms' := 0) F hW (mMX12_set_0 h12) (cwV 3 hts (gT_V q_7_17 q_7_19 qp_41 q_1_12 q_7_20) rfl rfl rfl hdX12_set ⟨Nat.le_of_ble_eq_true rfl, Nat.le_of_ble_eq_true rfl⟩) 0 10 (aM_0 K o8) rfl rfl hl.1 rfl (Nat.le_of_ble_eq_true rfl) dX12_entry_67 ⟨Nat.le_of_ble_eq_true rfl, Nat.le_of_ble_eq_true rfl⟩ rfl rfl (fun H locs hW => ?_)
    refine lv_aload_n hx hb dX12_entry_70 rfl (lv_at hl 0 rfl) ?_
    refine lv_iload_n hx hb dX12_entry_71 rfl (lv_at hl 1 rfl) ?_
    refine lv_bipush (v := (7 : Int32)) hx hb dX12_entry_72 (by decide) ?_
    refine lv_iadd hx hb dX12_entry_74 ?_
    refine lv_iconst (v := (1 : Int32)) hx hb dX12_entry_75 (by decide) ?_
    refine lv_iload hx hb dX12_entry_76 (lv_at hl 4 rfl) ?_
    obtain ⟨o14, h15, hf⟩ := gw_bind hf
    refine gw_Vv (As := [.int (x1 + (7 : Int32)), .int (1 : Int32), .int x4]) (mc' := 0) (ms' := 0) F hW (mMX12_set_0 h15) (cwV 3 hts (gT_V q_7_17 q_7_19 qp_41 q_1_12 q_7_20) rfl rfl rfl hdX12_set ⟨Nat.le_of_ble_eq_true rfl, Nat.le_of_ble_eq_true rfl⟩) 0 10 (aM_0 K o11) rfl rfl hl.1 rfl (Nat.le_of_ble_eq_true rfl) dX12_entry_78 ⟨Nat.le_of_ble_eq_true rfl, Nat.le_of_ble_eq_true rfl⟩ rfl rfl (fun H locs hW => ?_)
    refine lv_iconst (v := (0 : Int32)) hx hb dX12_entry_81 (by decide) ?_
    refine lv_istore (lv' := [(6, .int (0 : Int32)), (0, .ref (ka K 0)), (1, .int x1), (2, .int x2), (3, .int x3), (4, .int x4), (5, .int x5)]) hx hb dX12_entry_82 hl (by decide) rfl (fun ls hl => ?_)
    exact lfix_ind (P := PMX12_entry_0_84 p l e s m args below meth c A K) (fun k84 hk84 t o hf => wMX12_entry_0_84 F hk84 t.1 t.2.1 t.2.2 o hf) FU _ _ hf _ _ _ (lv_sub hl [1, 2, 0] rfl) hW
  · replace hf := (if_neg c4).symm.trans hf
    refine lv_aload_n hx hb dX12_entry_25 rfl (lv_at hl 0 rfl) ?_
    refine gw_get (v := .ref (ka K 1)) F inc_X12 hW 0 10 2 (aM_0 K σ) rfl (by decide) (hG _ q_6_114) (fun _ h9 => h9) rfl dX12_entry_26 ?_
    refine lv_iload_n hx hb dX12_entry_29 rfl (lv_at hl 1 rfl) ?_
    refine lv_iload hx hb dX12_entry_30 (lv_at hl 6 rfl) ?_
    refine lv_iadd hx hb dX12_entry_32 ?_
    refine lv_iconst (v := (0 : Int32)) hx hb dX12_entry_33 (by decide) ?_
    rcases Decidable.em ((x1 + x6) < 0 ∨ 524288 ≤ (x1 + x6).toNatClampNeg) with c20 | c20
    · replace hf := (if_pos c20).symm.trans hf
      exact absurd hf (by simp)
    · replace hf := (if_neg c20).symm.trans hf
      refine gw_bast (σ' := (stA σ 0 (x1 + x6).toNatClampNeg (vp_nar .byte (0 : Int32)))) F hW 1 0 (aM_1 K σ) rfl c20 dX12_entry_34 (sAM_0 _ _ _) (fun H locs hW => ?_)
      refine lv_iinc (v := (x6 + (1 : Int32))) (lv' := [(6, .int (x6 + (1 : Int32))), (0, .ref (ka K 0)), (1, .int x1), (2, .int x2), (3, .int x3), (4, .int x4), (5, .int x5)]) hx hb dX12_entry_35 hl (k := 6) rfl rfl (by decide) rfl (fun ls hl => ?_)
      refine lv_goto (tgt := 18) hx hb dX12_entry_38 (by decide) ?_
      exact hk18 _ _ hf _ _ _ (lv_sub hl [1, 2, 3, 4, 5, 6, 0] rfl) hW
set_option maxHeartbeats 4000000 in
set_option maxRecDepth 100000 in
theorem wMX12_entry_0_0 {p : Program} {l : Launch} {e : Env} {s : State} {m : MethodId} {args : Array Value} {below : List Frame} {meth : Method} {c : Code} {A : Nat → Prop} {K : KX} (F : fx_ p s m args meth c cX12_entry 7 none RX12 wsX12_entry) (x1 : Int32) (x2 : Int32) (x3 : Int32) (x4 : Int32) (σ : XS) (o : XS) (hf : fMX12_entry_0_0 (kn K) x1 x2 x3 x4 σ = some o) (H : Heap) (locs : List Loc) (ls : Array Slot) (hl : lv_has ls 7 [(0, .ref (ka K 0)), (1, .int x1), (2, .int x2), (3, .int x3), (4, .int x4)]) (hW : gw_ (kD K) vwCl (tyM K) (wM K) A s σ H locs) : W p l e rMX12_entry_0 s m args below meth c H locs 0 0 (MQ below (gw_Qv (kD K) vwCl (tyM K) (wM K) A o) args s rMX12_entry_0.cells rMX12_entry_0.slots A) (F0 m 0 ls []) := by
  have hx := F.1
  have hb := F.2.1
  have hml := F.2.2.2.1
  have hown := F.2.2.2.2.1
  have hts := F.2.2.2.2.2.1
  have hG : ∀ x ∈ gT, x.before args s = true := fun x h => hts x (List.mem_cons_of_mem _ h)
  unfold fMX12_entry_0_0 at hf
  refine lv_bipush (v := (8 : Int32)) hx hb dX12_entry_0 (by decide) ?_
  refine lv_aload_n hx hb dX12_entry_2 rfl (lv_at hl 0 rfl) ?_
  refine gw_get (v := .int (σ.1 12)) F inc_X12 hW 0 10 31 (aM_0 K σ) rfl (by decide) (hG _ q_6_143) (fun _ h9 => h9) rfl dX12_entry_3 ?_
  refine lv_iconst (v := (4 : Int32)) hx hb dX12_entry_6 (by decide) ?_
  obtain ⟨o1, h2, hf⟩ := gw_bind hf
  refine gw_Si (As := [.int (σ.1 12), .int (4 : Int32)]) (mc' := 0) (ms' := 0) F hW (mMX12_parts h2) (va_cwS 2 hts (gT_S q_6_230 q_6_231 q_1_12 q_6_232) rfl rfl rfl hdX12_parts.2 ⟨Nat.le_of_ble_eq_true rfl, Nat.le_of_ble_eq_true rfl⟩) rfl hl.1 rfl (Nat.le_of_ble_eq_true rfl) dX12_entry_7 ⟨Nat.le_of_ble_eq_true rfl, Nat.le_of_ble_eq_true rfl⟩ rfl rfl (fun H locs hW => ?_)
  refine lv_iconst (v := (4 : Int32)) hx hb dX12_entry_10 (by decide) ?_
  refine lv_imul hx hb dX12_entry_11 ?_
  refine lv_iadd hx hb dX12_entry_12 ?_
  refine lv_istore (lv' := [(5, .int ((8 : Int32) + (o1.1 * (4 : Int32)))), (0, .ref (ka K 0)), (1, .int x1), (2, .int x2), (3, .int x3), (4, .int x4)]) hx hb dX12_entry_13 hl (by decide) rfl (fun ls hl => ?_)
  refine lv_iconst (v := (0 : Int32)) hx hb dX12_entry_15 (by decide) ?_
  refine lv_istore (lv' := [(6, .int (0 : Int32)), (5, .int ((8 : Int32) + (o1.1 * (4 : Int32)))), (0, .ref (ka K 0)), (1, .int x1), (2, .int x2), (3, .int x3), (4, .int x4)]) hx hb dX12_entry_16 hl (by decide) rfl (fun ls hl => ?_)
  exact lfix_ind (P := PMX12_entry_0_18 p l e s m args below meth c A K) (fun k18 hk18 t o hf => wMX12_entry_0_18 F hk18 t.1 t.2.1 t.2.2.1 t.2.2.2.1 t.2.2.2.2.1 t.2.2.2.2.2.1 t.2.2.2.2.2.2 o hf) FU _ _ hf _ _ _ (lv_sub hl [2, 3, 4, 5, 6, 1, 0] rfl) hW
set_option maxHeartbeats 4000000 in
set_option maxRecDepth 100000 in
theorem mMX12_entry_0 {l : Launch} {K : KX} {σ : XS} {x1 : Int32} {x2 : Int32} {x3 : Int32} {x4 : Int32} {o : XS} (hf : fMX12_entry_0 (kn K) x1 x2 x3 x4 σ = some o) : gw_Mv l (kD K) vwCl (tyM K) (wM K) yX12_entry wsX12_entry rMX12_entry_0 [.ref (ka K 0), .int x1, .int x2, .int x3, .int x4] σ o := by
  intro sz
  refine gw_body (cc := cX12_entry) (maxL := 7) (yret := none) (by decide +kernel) rfl ?_ (Nat.le_of_ble_eq_true rfl)
  intro p e s m below meth c F hsz hW ls hl
  exact wMX12_entry_0_0 F x1 x2 x3 x4 σ o hf s.heap [] ls hl hW
abbrev rMX12_folder_0 : Room := { frames := 2, cells := 0, slots := 0, locals := 50 }
set_option maxHeartbeats 4000000 in
set_option maxRecDepth 100000 in
theorem wMX12_folder_0_0 {p : Program} {l : Launch} {e : Env} {s : State} {m : MethodId} {args : Array Value} {below : List Frame} {meth : Method} {c : Code} {A : Nat → Prop} {K : KX} (F : fx_ p s m args meth c cX12_folder 5 none RX12 wsX12_folder) (x1 : Int32) (σ : XS) (o : XS) (hf : fMX12_folder_0_0 (kn K) x1 σ = some o) (H : Heap) (locs : List Loc) (ls : Array Slot) (hl : lv_has ls 5 [(0, .ref (ka K 0)), (1, .int x1)]) (hW : gw_ (kD K) vwCl (tyM K) (wM K) A s σ H locs) : W p l e rMX12_folder_0 s m args below meth c H locs 0 0 (MQ below (gw_Qv (kD K) vwCl (tyM K) (wM K) A o) args s rMX12_folder_0.cells rMX12_folder_0.slots A) (F0 m 0 ls []) := by
  have hx := F.1
  have hb := F.2.1
  have hml := F.2.2.2.1
  have hown := F.2.2.2.2.1
  have hts := F.2.2.2.2.2.1
  have hG : ∀ x ∈ gT, x.before args s = true := fun x h => hts x (List.mem_cons_of_mem _ h)
  unfold fMX12_folder_0_0 at hf
  refine lv_aload_n hx hb dX12_folder_0 rfl (lv_at hl 0 rfl) ?_
  refine lv_iload_n hx hb dX12_folder_1 rfl (lv_at hl 1 rfl) ?_
  obtain ⟨o1, h2, hf⟩ := gw_bind hf
  refine gw_Vv (As := [.int x1]) (mc' := 0) (ms' := 0) F hW (mMX12_gain_0 h2) (cwV 1 hts (gT_V q_7_5 q_7_7 qp_38 q_1_12 q_7_8) rfl rfl rfl hdX12_gain ⟨Nat.le_of_ble_eq_true rfl, Nat.le_of_ble_eq_true rfl⟩) 0 10 (aM_0 K σ) rfl rfl hl.1 rfl (Nat.le_of_ble_eq_true rfl) dX12_folder_2 ⟨Nat.le_of_ble_eq_true rfl, Nat.le_of_ble_eq_true rfl⟩ rfl rfl (fun H locs hW => ?_)
  refine lv_aload_n hx hb dX12_folder_5 rfl (lv_at hl 0 rfl) ?_
  refine gw_get (v := .ref (ka K 8)) F inc_X12 hW 0 10 17 (aM_0 K o1) rfl (by decide) (hG _ q_6_129) (fun _ h9 => h9) rfl dX12_folder_6 ?_
  refine lv_iload_n hx hb dX12_folder_9 rfl (lv_at hl 1 rfl) ?_
  refine lv_sipush (v := (1024 : Int32)) hx hb dX12_folder_10 (by decide) ?_
  rcases Decidable.em (x1 < 0 ∨ 2100 ≤ x1.toNatClampNeg) with c4 | c4
  · replace hf := (if_pos c4).symm.trans hf
    exact absurd hf (by simp)
  · replace hf := (if_neg c4).symm.trans hf
    refine gw_iast (σ' := (stA o1 7 x1.toNatClampNeg (1024 : Int32))) F hW 8 7 (aM_8 K o1) rfl c4 dX12_folder_13 (sAM_7 _ _ _) (fun H locs hW => ?_)
    refine lv_aload_n hx hb dX12_folder_14 rfl (lv_at hl 0 rfl) ?_
    refine gw_get (v := .int (o1.1 12)) F inc_X12 hW 0 10 31 (aM_0 K (stA o1 7 x1.toNatClampNeg (1024 : Int32))) rfl (by decide) (hG _ q_6_143) (fun _ h9 => h9) rfl dX12_folder_15 ?_
    refine lv_istore_n (lv' := [(2, .int (o1.1 12)), (0, .ref (ka K 0)), (1, .int x1)]) hx hb dX12_folder_18 rfl hl (by decide) rfl (fun ls hl => ?_)
    refine lv_aload_n hx hb dX12_folder_19 rfl (lv_at hl 1 rfl) ?_
    refine gw_get (v := .ref (ka K 18)) F inc_X12 hW 0 10 30 (aM_0 K (stA o1 7 x1.toNatClampNeg (1024 : Int32))) rfl (by decide) (hG _ q_6_142) (fun _ h9 => h9) rfl dX12_folder_20 ?_
    refine lv_iconst (v := (0 : Int32)) hx hb dX12_folder_23 (by decide) ?_
    rcases Decidable.em ((0 : Int32) < 0 ∨ 255 ≤ (0 : Int32).toNatClampNeg) with c5 | c5
    · replace hf := (if_pos c5).symm.trans hf
      exact absurd hf (by simp)
    · replace hf := (if_neg c5).symm.trans hf
      refine gw_iald F hW 18 17 (aM_18 K (stA o1 7 x1.toNatClampNeg (1024 : Int32))) rfl c5 dX12_folder_24 ?_
      refine lv_istore_n (lv' := [(3, .int ((stA o1 7 x1.toNatClampNeg (1024 : Int32)).2.1 17 (0 : Int32).toNatClampNeg)), (2, .int (o1.1 12)), (0, .ref (ka K 0)), (1, .int x1)]) hx hb dX12_folder_25 rfl hl (by decide) rfl (fun ls hl => ?_)
      refine lv_aload_n hx hb dX12_folder_26 rfl (lv_at hl 2 rfl) ?_
      refine gw_get (v := .ref (ka K 18)) F inc_X12 hW 0 10 30 (aM_0 K (stA o1 7 x1.toNatClampNeg (1024 : Int32))) rfl (by decide) (hG _ q_6_142) (fun _ h9 => h9) rfl dX12_folder_27 ?_
      refine lv_iconst (v := (1 : Int32)) hx hb dX12_folder_30 (by decide) ?_
      rcases Decidable.em ((1 : Int32) < 0 ∨ 255 ≤ (1 : Int32).toNatClampNeg) with c6 | c6
      · replace hf := (if_pos c6).symm.trans hf
        exact absurd hf (by simp)
      · replace hf := (if_neg c6).symm.trans hf
        refine gw_iald F hW 18 17 (aM_18 K (stA o1 7 x1.toNatClampNeg (1024 : Int32))) rfl c6 dX12_folder_31 ?_
        refine lv_istore (lv' := [(4, .int ((stA o1 7 x1.toNatClampNeg (1024 : Int32)).2.1 17 (1 : Int32).toNatClampNeg)), (3, .int ((stA o1 7 x1.toNatClampNeg (1024 : Int32)).2.1 17 (0 : Int32).toNatClampNeg)), (2, .int (o1.1 12)), (0, .ref (ka K 0)), (1, .int x1)]) hx hb dX12_folder_32 hl (by decide) rfl (fun ls hl => ?_)
        refine lv_aload_n hx hb dX12_folder_34 rfl (lv_at hl 3 rfl) ?_
        refine gw_get (v := .ref (ka K 18)) F inc_X12 hW 0 10 30 (aM_0 K (stA o1 7 x1.toNatClampNeg (1024 : Int32))) rfl (by decide) (hG _ q_6_142) (fun _ h9 => h9) rfl dX12_folder_35 ?_
        refine lv_iconst (v := (0 : Int32)) hx hb dX12_folder_38 (by decide) ?_
        refine lv_bipush (v := (46 : Int32)) hx hb dX12_folder_39 (by decide) ?_
        rcases Decidable.em ((0 : Int32) < 0 ∨ 255 ≤ (0 : Int32).toNatClampNeg) with c7 | c7
        · replace hf := (if_pos c7).symm.trans hf
          exact absurd hf (by simp)
        · replace hf := (if_neg c7).symm.trans hf
          refine gw_iast (σ' := (stA (stA o1 7 x1.toNatClampNeg (1024 : Int32)) 17 (0 : Int32).toNatClampNeg (46 : Int32))) F hW 18 17 (aM_18 K (stA o1 7 x1.toNatClampNeg (1024 : Int32))) rfl c7 dX12_folder_41 (sAM_17 _ _ _) (fun H locs hW => ?_)
          refine lv_aload_n hx hb dX12_folder_42 rfl (lv_at hl 3 rfl) ?_
          refine gw_get (v := .ref (ka K 18)) F inc_X12 hW 0 10 30 (aM_0 K (stA (stA o1 7 x1.toNatClampNeg (1024 : Int32)) 17 (0 : Int32).toNatClampNeg (46 : Int32))) rfl (by decide) (hG _ q_6_142) (fun _ h9 => h9) rfl dX12_folder_43 ?_
          refine lv_iconst (v := (1 : Int32)) hx hb dX12_folder_46 (by decide) ?_
          refine lv_bipush (v := (46 : Int32)) hx hb dX12_folder_47 (by decide) ?_
          rcases Decidable.em ((1 : Int32) < 0 ∨ 255 ≤ (1 : Int32).toNatClampNeg) with c8 | c8
          · replace hf := (if_pos c8).symm.trans hf
            exact absurd hf (by simp)
          · replace hf := (if_neg c8).symm.trans hf
            refine gw_iast (σ' := (stA (stA (stA o1 7 x1.toNatClampNeg (1024 : Int32)) 17 (0 : Int32).toNatClampNeg (46 : Int32)) 17 (1 : Int32).toNatClampNeg (46 : Int32))) F hW 18 17 (aM_18 K (stA (stA o1 7 x1.toNatClampNeg (1024 : Int32)) 17 (0 : Int32).toNatClampNeg (46 : Int32))) rfl c8 dX12_folder_49 (sAM_17 _ _ _) (fun H locs hW => ?_)
            refine lv_aload_n hx hb dX12_folder_50 rfl (lv_at hl 3 rfl) ?_
            refine lv_iconst (v := (1 : Int32)) hx hb dX12_folder_51 (by decide) ?_
            refine gw_put (σ' := (stS (stA (stA (stA o1 7 x1.toNatClampNeg (1024 : Int32)) 17 (0 : Int32).toNatClampNeg (46 : Int32)) 17 (1 : Int32).toNatClampNeg (46 : Int32)) 12 (1 : Int32))) (ty := .int) F inc_X12 tyX12 tyX12_ok nmX12 hW 0 10 31 (aM_0 K (stA (stA (stA o1 7 x1.toNatClampNeg (1024 : Int32)) 17 (0 : Int32).toNatClampNeg (46 : Int32)) 17 (1 : Int32).toNatClampNeg (46 : Int32))) rfl (by decide) (hG _ q_6_143) (fun _ h9 => h9) rfl (by decide +kernel) rfl rfl (Nat.le_of_ble_eq_true rfl) dX12_folder_52 (sSM_12 _ _ _) (fun H locs hW => ?_)
            refine lv_aload_n hx hb dX12_folder_55 rfl (lv_at hl 3 rfl) ?_
            refine lv_sipush (v := (1024 : Int32)) hx hb dX12_folder_56 (by decide) ?_
            refine lv_aload_n hx hb dX12_folder_59 rfl (lv_at hl 3 rfl) ?_
            refine gw_get (v := .ref (ka K 11)) F inc_X12 hW 0 10 20 (aM_0 K (stS (stA (stA (stA o1 7 x1.toNatClampNeg (1024 : Int32)) 17 (0 : Int32).toNatClampNeg (46 : Int32)) 17 (1 : Int32).toNatClampNeg (46 : Int32)) 12 (1 : Int32))) rfl (by decide) (hG _ q_6_132) (fun _ h9 => h9) rfl dX12_folder_60 ?_
            refine lv_iload_n hx hb dX12_folder_63 rfl (lv_at hl 4 rfl) ?_
            rcases Decidable.em (x1 < 0 ∨ 2100 ≤ x1.toNatClampNeg) with c9 | c9
            · replace hf := (if_pos c9).symm.trans hf
              exact absurd hf (by simp)
            · replace hf := (if_neg c9).symm.trans hf
              refine gw_iald F hW 11 10 (aM_11 K (stS (stA (stA (stA o1 7 x1.toNatClampNeg (1024 : Int32)) 17 (0 : Int32).toNatClampNeg (46 : Int32)) 17 (1 : Int32).toNatClampNeg (46 : Int32)) 12 (1 : Int32))) rfl c9 dX12_folder_64 ?_
              refine lv_imul hx hb dX12_folder_65 ?_
              refine lv_iload_n hx hb dX12_folder_66 rfl (lv_at hl 4 rfl) ?_
              refine lv_bipush (v := (12 : Int32)) hx hb dX12_folder_67 (by decide) ?_
              refine lv_iconst (v := (2 : Int32)) hx hb dX12_folder_69 (by decide) ?_
              obtain ⟨o10, h11, hf⟩ := gw_bind hf
              refine gw_Vv (As := [.int ((1024 : Int32) * ((stS (stA (stA (stA o1 7 x1.toNatClampNeg (1024 : Int32)) 17 (0 : Int32).toNatClampNeg (46 : Int32)) 17 (1 : Int32).toNatClampNeg (46 : Int32)) 12 (1 : Int32)).2.1 10 x1.toNatClampNeg)), .int x1, .int (12 : Int32), .int (2 : Int32)]) (mc' := 0) (ms' := 0) F hW (mMX12_entry_0 h11) (cwV 4 hts (gT_V q_7_13 q_7_15 qp_40 q_1_12 q_7_16) rfl rfl rfl hdX12_entry ⟨Nat.le_of_ble_eq_true rfl, Nat.le_of_ble_eq_true rfl⟩) 0 10 (aM_0 K (stS (stA (stA (stA o1 7 x1.toNatClampNeg (1024 : Int32)) 17 (0 : Int32).toNatClampNeg (46 : Int32)) 17 (1 : Int32).toNatClampNeg (46 : Int32)) 12 (1 : Int32))) rfl rfl hl.1 rfl (Nat.le_of_ble_eq_true rfl) dX12_folder_70 ⟨Nat.le_of_ble_eq_true rfl, Nat.le_of_ble_eq_true rfl⟩ rfl rfl (fun H locs hW => ?_)
              refine lv_aload_n hx hb dX12_folder_73 rfl (lv_at hl 3 rfl) ?_
              refine lv_iconst (v := (2 : Int32)) hx hb dX12_folder_74 (by decide) ?_
              refine gw_put (σ' := (stS o10 12 (2 : Int32))) (ty := .int) F inc_X12 tyX12 tyX12_ok nmX12 hW 0 10 31 (aM_0 K o10) rfl (by decide) (hG _ q_6_143) (fun _ h9 => h9) rfl (by decide +kernel) rfl rfl (Nat.le_of_ble_eq_true rfl) dX12_folder_75 (sSM_12 _ _ _) (fun H locs hW => ?_)
              refine lv_aload_n hx hb dX12_folder_78 rfl (lv_at hl 3 rfl) ?_
              refine lv_sipush (v := (1024 : Int32)) hx hb dX12_folder_79 (by decide) ?_
              refine lv_aload_n hx hb dX12_folder_82 rfl (lv_at hl 3 rfl) ?_
              refine gw_get (v := .ref (ka K 11)) F inc_X12 hW 0 10 20 (aM_0 K (stS o10 12 (2 : Int32))) rfl (by decide) (hG _ q_6_132) (fun _ h9 => h9) rfl dX12_folder_83 ?_
              refine lv_iload_n hx hb dX12_folder_86 rfl (lv_at hl 4 rfl) ?_
              rcases Decidable.em (x1 < 0 ∨ 2100 ≤ x1.toNatClampNeg) with c13 | c13
              · replace hf := (if_pos c13).symm.trans hf
                exact absurd hf (by simp)
              · replace hf := (if_neg c13).symm.trans hf
                refine gw_iald F hW 11 10 (aM_11 K (stS o10 12 (2 : Int32))) rfl c13 dX12_folder_87 ?_
                refine lv_imul hx hb dX12_folder_88 ?_
                refine lv_bipush (v := (12 : Int32)) hx hb dX12_folder_89 (by decide) ?_
                refine lv_iadd hx hb dX12_folder_91 ?_
                refine lv_aload_n hx hb dX12_folder_92 rfl (lv_at hl 3 rfl) ?_
                refine gw_get (v := .ref (ka K 16)) F inc_X12 hW 0 10 25 (aM_0 K (stS o10 12 (2 : Int32))) rfl (by decide) (hG _ q_6_137) (fun _ h9 => h9) rfl dX12_folder_93 ?_
                refine lv_iload_n hx hb dX12_folder_96 rfl (lv_at hl 4 rfl) ?_
                rcases Decidable.em (x1 < 0 ∨ 2100 ≤ x1.toNatClampNeg) with c14 | c14
                · replace hf := (if_pos c14).symm.trans hf
                  exact absurd hf (by simp)
                · replace hf := (if_neg c14).symm.trans hf
                  refine gw_iald F hW 16 15 (aM_16 K (stS o10 12 (2 : Int32))) rfl c14 dX12_folder_97 ?_
                  refine lv_sipush (v := (1012 : Int32)) hx hb dX12_folder_98 (by decide) ?_
                  refine lv_iconst (v := (2 : Int32)) hx hb dX12_folder_101 (by decide) ?_
                  obtain ⟨o15, h16, hf⟩ := gw_bind hf
                  refine gw_Vv (As := [.int (((1024 : Int32) * ((stS o10 12 (2 : Int32)).2.1 10 x1.toNatClampNeg)) + (12 : Int32)), .int ((stS o10 12 (2 : Int32)).2.1 15 x1.toNatClampNeg), .int (1012 : Int32), .int (2 : Int32)]) (mc' := 0) (ms' := 0) F hW (mMX12_entry_0 h16) (cwV 4 hts (gT_V q_7_13 q_7_15 qp_40 q_1_12 q_7_16) rfl rfl rfl hdX12_entry ⟨Nat.le_of_ble_eq_true rfl, Nat.le_of_ble_eq_true rfl⟩) 0 10 (aM_0 K (stS o10 12 (2 : Int32))) rfl rfl hl.1 rfl (Nat.le_of_ble_eq_true rfl) dX12_folder_102 ⟨Nat.le_of_ble_eq_true rfl, Nat.le_of_ble_eq_true rfl⟩ rfl rfl (fun H locs hW => ?_)
                  refine lv_aload_n hx hb dX12_folder_105 rfl (lv_at hl 3 rfl) ?_
                  refine gw_get (v := .ref (ka K 18)) F inc_X12 hW 0 10 30 (aM_0 K o15) rfl (by decide) (hG _ q_6_142) (fun _ h9 => h9) rfl dX12_folder_106 ?_
                  refine lv_iconst (v := (0 : Int32)) hx hb dX12_folder_109 (by decide) ?_
                  refine lv_iload_n hx hb dX12_folder_110 rfl (lv_at hl 1 rfl) ?_
                  rcases Decidable.em ((0 : Int32) < 0 ∨ 255 ≤ (0 : Int32).toNatClampNeg) with c18 | c18
                  · replace hf := (if_pos c18).symm.trans hf
                    exact absurd hf (by simp)
                  · replace hf := (if_neg c18).symm.trans hf
                    refine gw_iast (σ' := (stA o15 17 (0 : Int32).toNatClampNeg ((stA o1 7 x1.toNatClampNeg (1024 : Int32)).2.1 17 (0 : Int32).toNatClampNeg))) F hW 18 17 (aM_18 K o15) rfl c18 dX12_folder_111 (sAM_17 _ _ _) (fun H locs hW => ?_)
                    refine lv_aload_n hx hb dX12_folder_112 rfl (lv_at hl 3 rfl) ?_
                    refine gw_get (v := .ref (ka K 18)) F inc_X12 hW 0 10 30 (aM_0 K (stA o15 17 (0 : Int32).toNatClampNeg ((stA o1 7 x1.toNatClampNeg (1024 : Int32)).2.1 17 (0 : Int32).toNatClampNeg))) rfl (by decide) (hG _ q_6_142) (fun _ h9 => h9) rfl dX12_folder_113 ?_
                    refine lv_iconst (v := (1 : Int32)) hx hb dX12_folder_116 (by decide) ?_
                    refine lv_iload hx hb dX12_folder_117 (lv_at hl 0 rfl) ?_
                    rcases Decidable.em ((1 : Int32) < 0 ∨ 255 ≤ (1 : Int32).toNatClampNeg) with c19 | c19
                    · replace hf := (if_pos c19).symm.trans hf
                      exact absurd hf (by simp)
                    · replace hf := (if_neg c19).symm.trans hf
                      refine gw_iast (σ' := (stA (stA o15 17 (0 : Int32).toNatClampNeg ((stA o1 7 x1.toNatClampNeg (1024 : Int32)).2.1 17 (0 : Int32).toNatClampNeg)) 17 (1 : Int32).toNatClampNeg ((stA o1 7 x1.toNatClampNeg (1024 : Int32)).2.1 17 (1 : Int32).toNatClampNeg))) F hW 18 17 (aM_18 K (stA o15 17 (0 : Int32).toNatClampNeg ((stA o1 7 x1.toNatClampNeg (1024 : Int32)).2.1 17 (0 : Int32).toNatClampNeg))) rfl c19 dX12_folder_119 (sAM_17 _ _ _) (fun H locs hW => ?_)
                      refine lv_aload_n hx hb dX12_folder_120 rfl (lv_at hl 3 rfl) ?_
                      refine lv_iload_n hx hb dX12_folder_121 rfl (lv_at hl 2 rfl) ?_
                      refine gw_put (σ' := (stS (stA (stA o15 17 (0 : Int32).toNatClampNeg ((stA o1 7 x1.toNatClampNeg (1024 : Int32)).2.1 17 (0 : Int32).toNatClampNeg)) 17 (1 : Int32).toNatClampNeg ((stA o1 7 x1.toNatClampNeg (1024 : Int32)).2.1 17 (1 : Int32).toNatClampNeg)) 12 (o1.1 12))) (ty := .int) F inc_X12 tyX12 tyX12_ok nmX12 hW 0 10 31 (aM_0 K (stA (stA o15 17 (0 : Int32).toNatClampNeg ((stA o1 7 x1.toNatClampNeg (1024 : Int32)).2.1 17 (0 : Int32).toNatClampNeg)) 17 (1 : Int32).toNatClampNeg ((stA o1 7 x1.toNatClampNeg (1024 : Int32)).2.1 17 (1 : Int32).toNatClampNeg))) rfl (by decide) (hG _ q_6_143) (fun _ h9 => h9) rfl (by decide +kernel) rfl rfl (Nat.le_of_ble_eq_true rfl) dX12_folder_122 (sSM_12 _ _ _) (fun H locs hW => ?_)
                      exact gw_retv F hW hf dX12_folder_125
set_option maxHeartbeats 4000000 in
set_option maxRecDepth 100000 in
theorem mMX12_folder_0 {l : Launch} {K : KX} {σ : XS} {x1 : Int32} {o : XS} (hf : fMX12_folder_0 (kn K) x1 σ = some o) : gw_Mv l (kD K) vwCl (tyM K) (wM K) yX12_folder wsX12_folder rMX12_folder_0 [.ref (ka K 0), .int x1] σ o := by
  intro sz
  refine gw_body (cc := cX12_folder) (maxL := 5) (yret := none) (by decide +kernel) rfl ?_ (Nat.le_of_ble_eq_true rfl)
  intro p e s m below meth c F hsz hW ls hl
  exact wMX12_folder_0_0 F x1 σ o hf s.heap [] ls hl hW
abbrev rMX12_clear_0 : Room := { frames := 0, cells := 0, slots := 0, locals := 0 }
def PMX12_clear_0_58 (p : Program) (l : Launch) (e : Env) (s : State) (m : MethodId) (args : Array Value) (below : List Frame) (meth : Method) (c : Code) (A : Nat → Prop) (K : KX) (t : (Int32 × Int32 × XS)) (o : XS) : Prop := ∀ (H : Heap) (locs : List Loc) (ls : Array Slot), lv_has ls 3 [(0, .ref (ka K 0)), (1, .int t.1), (2, .int t.2.1)] → gw_ (kD K) vwCl (tyM K) (wM K) A s t.2.2 H locs → W p l e rMX12_clear_0 s m args below meth c H locs 0 0 (MQ below (gw_Qv (kD K) vwCl (tyM K) (wM K) A o) args s rMX12_clear_0.cells rMX12_clear_0.slots A) (F0 m 58 ls [])
set_option maxHeartbeats 4000000 in
set_option maxRecDepth 100000 in
theorem wMX12_clear_0_58 {p : Program} {l : Launch} {e : Env} {s : State} {m : MethodId} {args : Array Value} {below : List Frame} {meth : Method} {c : Code} {A : Nat → Prop} {K : KX} (F : fx_ p s m args meth c cX12_clear 3 none RX12 wsX12_clear) {k58 : (Int32 × Int32 × XS) → Option XS} (hk58 : ∀ t o, k58 t = some o → PMX12_clear_0_58 p l e s m args below meth c A K t o) (x1 : Int32) (x2 : Int32) (σ : XS) (o : XS) (hf : fMX12_clear_0_58 (kn K) k58 x1 x2 σ = some o) (H : Heap) (locs : List Loc) (ls : Array Slot) (hl : lv_has ls 3 [(0, .ref (ka K 0)), (1, .int x1), (2, .int x2)]) (hW : gw_ (kD K) vwCl (tyM K) (wM K) A s σ H locs) : W p l e rMX12_clear_0 s m args below meth c H locs 0 0 (MQ below (gw_Qv (kD K) vwCl (tyM K) (wM K) A o) args s rMX12_clear_0.cells rMX12_clear_0.slots A) (F0 m 58 ls []) := by
  have hx := F.1
  have hb := F.2.1
  have hml := F.2.2.2.1
  have hown := F.2.2.2.2.1
  have hts := F.2.2.2.2.2.1
  have hG : ∀ x ∈ gT, x.before args s = true := fun x h => hts x (List.mem_cons_of_mem _ h)
  unfold fMX12_clear_0_58 at hf
  refine lv_iload_n hx hb dX12_clear_58 rfl (lv_at hl 2 rfl) ?_
  refine lv_iconst (v := (3 : Int32)) hx hb dX12_clear_59 (by decide) ?_
  refine lv_icmp_ge (tgt := 80) hx hb dX12_clear_60 (by decide) (fun c9 => ?_) (fun c9 => ?_)
  · replace hf := (if_pos c9).symm.trans hf
    exact gw_retv F hW hf dX12_clear_80
  · replace hf := (if_neg c9).symm.trans hf
    refine lv_aload_n hx hb dX12_clear_63 rfl (lv_at hl 0 rfl) ?_
    refine gw_get (v := .ref (ka K 17)) F inc_X12 hW 0 10 26 (aM_0 K σ) rfl (by decide) (hG _ q_6_138) (fun _ h9 => h9) rfl dX12_clear_64 ?_
    refine lv_iconst (v := (3 : Int32)) hx hb dX12_clear_67 (by decide) ?_
    refine lv_iload_n hx hb dX12_clear_68 rfl (lv_at hl 1 rfl) ?_
    refine lv_imul hx hb dX12_clear_69 ?_
    refine lv_iload_n hx hb dX12_clear_70 rfl (lv_at hl 2 rfl) ?_
    refine lv_iadd hx hb dX12_clear_71 ?_
    refine lv_lconst (v := (0 : Int64)) hx hb dX12_clear_72 (by decide) ?_
    rcases Decidable.em ((((3 : Int32) * x1) + x2) < 0 ∨ 6300 ≤ (((3 : Int32) * x1) + x2).toNatClampNeg) with c10 | c10
    · replace hf := (if_pos c10).symm.trans hf
      exact absurd hf (by simp)
    · replace hf := (if_neg c10).symm.trans hf
      refine gw_last (σ' := (stL σ 0 (((3 : Int32) * x1) + x2).toNatClampNeg (0 : Int64))) F hW 17 16 (aM_17 K σ) rfl c10 dX12_clear_73 (sAM_16 _ _ _) (fun H locs hW => ?_)
      refine lv_iinc (v := (x2 + (1 : Int32))) (lv' := [(2, .int (x2 + (1 : Int32))), (0, .ref (ka K 0)), (1, .int x1)]) hx hb dX12_clear_74 hl (k := 2) rfl rfl (by decide) rfl (fun ls hl => ?_)
      refine lv_goto (tgt := 58) hx hb dX12_clear_77 (by decide) ?_
      exact hk58 _ _ hf _ _ _ (lv_sub hl [1, 2, 0] rfl) hW
set_option maxHeartbeats 4000000 in
set_option maxRecDepth 100000 in
theorem wMX12_clear_0_0 {p : Program} {l : Launch} {e : Env} {s : State} {m : MethodId} {args : Array Value} {below : List Frame} {meth : Method} {c : Code} {A : Nat → Prop} {K : KX} (F : fx_ p s m args meth c cX12_clear 3 none RX12 wsX12_clear) (x1 : Int32) (σ : XS) (o : XS) (hf : fMX12_clear_0_0 (kn K) x1 σ = some o) (H : Heap) (locs : List Loc) (ls : Array Slot) (hl : lv_has ls 3 [(0, .ref (ka K 0)), (1, .int x1)]) (hW : gw_ (kD K) vwCl (tyM K) (wM K) A s σ H locs) : W p l e rMX12_clear_0 s m args below meth c H locs 0 0 (MQ below (gw_Qv (kD K) vwCl (tyM K) (wM K) A o) args s rMX12_clear_0.cells rMX12_clear_0.slots A) (F0 m 0 ls []) := by
  have hx := F.1
  have hb := F.2.1
  have hml := F.2.2.2.1
  have hown := F.2.2.2.2.1
  have hts := F.2.2.2.2.2.1
  have hG : ∀ x ∈ gT, x.before args s = true := fun x h => hts x (List.mem_cons_of_mem _ h)
  unfold fMX12_clear_0_0 at hf
  refine lv_aload_n hx hb dX12_clear_0 rfl (lv_at hl 0 rfl) ?_
  refine gw_get (v := .ref (ka K 8)) F inc_X12 hW 0 10 17 (aM_0 K σ) rfl (by decide) (hG _ q_6_129) (fun _ h9 => h9) rfl dX12_clear_1 ?_
  refine lv_iload_n hx hb dX12_clear_4 rfl (lv_at hl 1 rfl) ?_
  refine lv_iconst (v := (0 : Int32)) hx hb dX12_clear_5 (by decide) ?_
  rcases Decidable.em (x1 < 0 ∨ 2100 ≤ x1.toNatClampNeg) with c1 | c1
  · replace hf := (if_pos c1).symm.trans hf
    exact absurd hf (by simp)
  · replace hf := (if_neg c1).symm.trans hf
    refine gw_iast (σ' := (stA σ 7 x1.toNatClampNeg (0 : Int32))) F hW 8 7 (aM_8 K σ) rfl c1 dX12_clear_6 (sAM_7 _ _ _) (fun H locs hW => ?_)
    refine lv_aload_n hx hb dX12_clear_7 rfl (lv_at hl 0 rfl) ?_
    refine gw_get (v := .ref (ka K 9)) F inc_X12 hW 0 10 18 (aM_0 K (stA σ 7 x1.toNatClampNeg (0 : Int32))) rfl (by decide) (hG _ q_6_130) (fun _ h9 => h9) rfl dX12_clear_8 ?_
    refine lv_iload_n hx hb dX12_clear_11 rfl (lv_at hl 1 rfl) ?_
    refine lv_iconst (v := (0 : Int32)) hx hb dX12_clear_12 (by decide) ?_
    rcases Decidable.em (x1 < 0 ∨ 2100 ≤ x1.toNatClampNeg) with c2 | c2
    · replace hf := (if_pos c2).symm.trans hf
      exact absurd hf (by simp)
    · replace hf := (if_neg c2).symm.trans hf
      refine gw_iast (σ' := (stA (stA σ 7 x1.toNatClampNeg (0 : Int32)) 8 x1.toNatClampNeg (0 : Int32))) F hW 9 8 (aM_9 K (stA σ 7 x1.toNatClampNeg (0 : Int32))) rfl c2 dX12_clear_13 (sAM_8 _ _ _) (fun H locs hW => ?_)
      refine lv_aload_n hx hb dX12_clear_14 rfl (lv_at hl 0 rfl) ?_
      refine gw_get (v := .ref (ka K 10)) F inc_X12 hW 0 10 19 (aM_0 K (stA (stA σ 7 x1.toNatClampNeg (0 : Int32)) 8 x1.toNatClampNeg (0 : Int32))) rfl (by decide) (hG _ q_6_131) (fun _ h9 => h9) rfl dX12_clear_15 ?_
      refine lv_iload_n hx hb dX12_clear_18 rfl (lv_at hl 1 rfl) ?_
      refine lv_iconst (v := (0 : Int32)) hx hb dX12_clear_19 (by decide) ?_
      rcases Decidable.em (x1 < 0 ∨ 2100 ≤ x1.toNatClampNeg) with c3 | c3
      · replace hf := (if_pos c3).symm.trans hf
        exact absurd hf (by simp)
      · replace hf := (if_neg c3).symm.trans hf
        refine gw_iast (σ' := (stA (stA (stA σ 7 x1.toNatClampNeg (0 : Int32)) 8 x1.toNatClampNeg (0 : Int32)) 9 x1.toNatClampNeg (0 : Int32))) F hW 10 9 (aM_10 K (stA (stA σ 7 x1.toNatClampNeg (0 : Int32)) 8 x1.toNatClampNeg (0 : Int32))) rfl c3 dX12_clear_20 (sAM_9 _ _ _) (fun H locs hW => ?_)
        refine lv_aload_n hx hb dX12_clear_21 rfl (lv_at hl 0 rfl) ?_
        refine gw_get (v := .ref (ka K 11)) F inc_X12 hW 0 10 20 (aM_0 K (stA (stA (stA σ 7 x1.toNatClampNeg (0 : Int32)) 8 x1.toNatClampNeg (0 : Int32)) 9 x1.toNatClampNeg (0 : Int32))) rfl (by decide) (hG _ q_6_132) (fun _ h9 => h9) rfl dX12_clear_22 ?_
        refine lv_iload_n hx hb dX12_clear_25 rfl (lv_at hl 1 rfl) ?_
        refine lv_iconst (v := (0 : Int32)) hx hb dX12_clear_26 (by decide) ?_
        rcases Decidable.em (x1 < 0 ∨ 2100 ≤ x1.toNatClampNeg) with c4 | c4
        · replace hf := (if_pos c4).symm.trans hf
          exact absurd hf (by simp)
        · replace hf := (if_neg c4).symm.trans hf
          refine gw_iast (σ' := (stA (stA (stA (stA σ 7 x1.toNatClampNeg (0 : Int32)) 8 x1.toNatClampNeg (0 : Int32)) 9 x1.toNatClampNeg (0 : Int32)) 10 x1.toNatClampNeg (0 : Int32))) F hW 11 10 (aM_11 K (stA (stA (stA σ 7 x1.toNatClampNeg (0 : Int32)) 8 x1.toNatClampNeg (0 : Int32)) 9 x1.toNatClampNeg (0 : Int32))) rfl c4 dX12_clear_27 (sAM_10 _ _ _) (fun H locs hW => ?_)
          refine lv_aload_n hx hb dX12_clear_28 rfl (lv_at hl 0 rfl) ?_
          refine gw_get (v := .ref (ka K 12)) F inc_X12 hW 0 10 21 (aM_0 K (stA (stA (stA (stA σ 7 x1.toNatClampNeg (0 : Int32)) 8 x1.toNatClampNeg (0 : Int32)) 9 x1.toNatClampNeg (0 : Int32)) 10 x1.toNatClampNeg (0 : Int32))) rfl (by decide) (hG _ q_6_133) (fun _ h9 => h9) rfl dX12_clear_29 ?_
          refine lv_iload_n hx hb dX12_clear_32 rfl (lv_at hl 1 rfl) ?_
          refine lv_iconst (v := (0 : Int32)) hx hb dX12_clear_33 (by decide) ?_
          rcases Decidable.em (x1 < 0 ∨ 2100 ≤ x1.toNatClampNeg) with c5 | c5
          · replace hf := (if_pos c5).symm.trans hf
            exact absurd hf (by simp)
          · replace hf := (if_neg c5).symm.trans hf
            refine gw_iast (σ' := (stA (stA (stA (stA (stA σ 7 x1.toNatClampNeg (0 : Int32)) 8 x1.toNatClampNeg (0 : Int32)) 9 x1.toNatClampNeg (0 : Int32)) 10 x1.toNatClampNeg (0 : Int32)) 11 x1.toNatClampNeg (0 : Int32))) F hW 12 11 (aM_12 K (stA (stA (stA (stA σ 7 x1.toNatClampNeg (0 : Int32)) 8 x1.toNatClampNeg (0 : Int32)) 9 x1.toNatClampNeg (0 : Int32)) 10 x1.toNatClampNeg (0 : Int32))) rfl c5 dX12_clear_34 (sAM_11 _ _ _) (fun H locs hW => ?_)
            refine lv_aload_n hx hb dX12_clear_35 rfl (lv_at hl 0 rfl) ?_
            refine gw_get (v := .ref (ka K 13)) F inc_X12 hW 0 10 22 (aM_0 K (stA (stA (stA (stA (stA σ 7 x1.toNatClampNeg (0 : Int32)) 8 x1.toNatClampNeg (0 : Int32)) 9 x1.toNatClampNeg (0 : Int32)) 10 x1.toNatClampNeg (0 : Int32)) 11 x1.toNatClampNeg (0 : Int32))) rfl (by decide) (hG _ q_6_134) (fun _ h9 => h9) rfl dX12_clear_36 ?_
            refine lv_iload_n hx hb dX12_clear_39 rfl (lv_at hl 1 rfl) ?_
            refine lv_iconst (v := (0 : Int32)) hx hb dX12_clear_40 (by decide) ?_
            rcases Decidable.em (x1 < 0 ∨ 2100 ≤ x1.toNatClampNeg) with c6 | c6
            · replace hf := (if_pos c6).symm.trans hf
              exact absurd hf (by simp)
            · replace hf := (if_neg c6).symm.trans hf
              refine gw_iast (σ' := (stA (stA (stA (stA (stA (stA σ 7 x1.toNatClampNeg (0 : Int32)) 8 x1.toNatClampNeg (0 : Int32)) 9 x1.toNatClampNeg (0 : Int32)) 10 x1.toNatClampNeg (0 : Int32)) 11 x1.toNatClampNeg (0 : Int32)) 12 x1.toNatClampNeg (0 : Int32))) F hW 13 12 (aM_13 K (stA (stA (stA (stA (stA σ 7 x1.toNatClampNeg (0 : Int32)) 8 x1.toNatClampNeg (0 : Int32)) 9 x1.toNatClampNeg (0 : Int32)) 10 x1.toNatClampNeg (0 : Int32)) 11 x1.toNatClampNeg (0 : Int32))) rfl c6 dX12_clear_41 (sAM_12 _ _ _) (fun H locs hW => ?_)
              refine lv_aload_n hx hb dX12_clear_42 rfl (lv_at hl 0 rfl) ?_
              refine gw_get (v := .ref (ka K 14)) F inc_X12 hW 0 10 23 (aM_0 K (stA (stA (stA (stA (stA (stA σ 7 x1.toNatClampNeg (0 : Int32)) 8 x1.toNatClampNeg (0 : Int32)) 9 x1.toNatClampNeg (0 : Int32)) 10 x1.toNatClampNeg (0 : Int32)) 11 x1.toNatClampNeg (0 : Int32)) 12 x1.toNatClampNeg (0 : Int32))) rfl (by decide) (hG _ q_6_135) (fun _ h9 => h9) rfl dX12_clear_43 ?_
              refine lv_iload_n hx hb dX12_clear_46 rfl (lv_at hl 1 rfl) ?_
              refine lv_iconst (v := (0 : Int32)) hx hb dX12_clear_47 (by decide) ?_
              rcases Decidable.em (x1 < 0 ∨ 2100 ≤ x1.toNatClampNeg) with c7 | c7
              · replace hf := (if_pos c7).symm.trans hf
                exact absurd hf (by simp)
              · replace hf := (if_neg c7).symm.trans hf
                refine gw_iast (σ' := (stA (stA (stA (stA (stA (stA (stA σ 7 x1.toNatClampNeg (0 : Int32)) 8 x1.toNatClampNeg (0 : Int32)) 9 x1.toNatClampNeg (0 : Int32)) 10 x1.toNatClampNeg (0 : Int32)) 11 x1.toNatClampNeg (0 : Int32)) 12 x1.toNatClampNeg (0 : Int32)) 13 x1.toNatClampNeg (0 : Int32))) F hW 14 13 (aM_14 K (stA (stA (stA (stA (stA (stA σ 7 x1.toNatClampNeg (0 : Int32)) 8 x1.toNatClampNeg (0 : Int32)) 9 x1.toNatClampNeg (0 : Int32)) 10 x1.toNatClampNeg (0 : Int32)) 11 x1.toNatClampNeg (0 : Int32)) 12 x1.toNatClampNeg (0 : Int32))) rfl c7 dX12_clear_48 (sAM_13 _ _ _) (fun H locs hW => ?_)
                refine lv_aload_n hx hb dX12_clear_49 rfl (lv_at hl 0 rfl) ?_
                refine gw_get (v := .ref (ka K 15)) F inc_X12 hW 0 10 24 (aM_0 K (stA (stA (stA (stA (stA (stA (stA σ 7 x1.toNatClampNeg (0 : Int32)) 8 x1.toNatClampNeg (0 : Int32)) 9 x1.toNatClampNeg (0 : Int32)) 10 x1.toNatClampNeg (0 : Int32)) 11 x1.toNatClampNeg (0 : Int32)) 12 x1.toNatClampNeg (0 : Int32)) 13 x1.toNatClampNeg (0 : Int32))) rfl (by decide) (hG _ q_6_136) (fun _ h9 => h9) rfl dX12_clear_50 ?_
                refine lv_iload_n hx hb dX12_clear_53 rfl (lv_at hl 1 rfl) ?_
                refine lv_iconst (v := (0 : Int32)) hx hb dX12_clear_54 (by decide) ?_
                rcases Decidable.em (x1 < 0 ∨ 2100 ≤ x1.toNatClampNeg) with c8 | c8
                · replace hf := (if_pos c8).symm.trans hf
                  exact absurd hf (by simp)
                · replace hf := (if_neg c8).symm.trans hf
                  refine gw_iast (σ' := (stA (stA (stA (stA (stA (stA (stA (stA σ 7 x1.toNatClampNeg (0 : Int32)) 8 x1.toNatClampNeg (0 : Int32)) 9 x1.toNatClampNeg (0 : Int32)) 10 x1.toNatClampNeg (0 : Int32)) 11 x1.toNatClampNeg (0 : Int32)) 12 x1.toNatClampNeg (0 : Int32)) 13 x1.toNatClampNeg (0 : Int32)) 14 x1.toNatClampNeg (0 : Int32))) F hW 15 14 (aM_15 K (stA (stA (stA (stA (stA (stA (stA σ 7 x1.toNatClampNeg (0 : Int32)) 8 x1.toNatClampNeg (0 : Int32)) 9 x1.toNatClampNeg (0 : Int32)) 10 x1.toNatClampNeg (0 : Int32)) 11 x1.toNatClampNeg (0 : Int32)) 12 x1.toNatClampNeg (0 : Int32)) 13 x1.toNatClampNeg (0 : Int32))) rfl c8 dX12_clear_55 (sAM_14 _ _ _) (fun H locs hW => ?_)
                  refine lv_iconst (v := (0 : Int32)) hx hb dX12_clear_56 (by decide) ?_
                  refine lv_istore_n (lv' := [(2, .int (0 : Int32)), (0, .ref (ka K 0)), (1, .int x1)]) hx hb dX12_clear_57 rfl hl (by decide) rfl (fun ls hl => ?_)
                  exact lfix_ind (P := PMX12_clear_0_58 p l e s m args below meth c A K) (fun k58 hk58 t o hf => wMX12_clear_0_58 F hk58 t.1 t.2.1 t.2.2 o hf) FU _ _ hf _ _ _ (lv_sub hl [1, 2, 0] rfl) hW
set_option maxHeartbeats 4000000 in
set_option maxRecDepth 100000 in
theorem mMX12_clear_0 {l : Launch} {K : KX} {σ : XS} {x1 : Int32} {o : XS} (hf : fMX12_clear_0 (kn K) x1 σ = some o) : gw_Mv l (kD K) vwCl (tyM K) (wM K) yX12_clear wsX12_clear rMX12_clear_0 [.ref (ka K 0), .int x1] σ o := by
  intro sz
  refine gw_body (cc := cX12_clear) (maxL := 3) (yret := none) (by decide +kernel) rfl ?_ (Nat.le_of_ble_eq_true rfl)
  intro p e s m below meth c F hsz hW ls hl
  exact wMX12_clear_0_0 F x1 σ o hf s.heap [] ls hl hW
abbrev rMX12_format_0 : Room := { frames := 3, cells := 0, slots := 0, locals := 74 }
def PMX12_format_0_239 (p : Program) (l : Launch) (e : Env) (s : State) (m : MethodId) (args : Array Value) (below : List Frame) (meth : Method) (c : Code) (A : Nat → Prop) (K : KX) (t : (Int32 × XS)) (o : (Int32 × XS)) : Prop := ∀ (H : Heap) (locs : List Loc) (ls : Array Slot), lv_has ls 8 [(0, .ref (ka K 0)), (7, .int t.1)] → gw_ (kD K) vwCl (tyM K) (wM K) A s t.2 H locs → W p l e rMX12_format_0 s m args below meth c H locs 0 0 (MQ below (gw_Qi (kD K) vwCl (tyM K) (wM K) A o) args s rMX12_format_0.cells rMX12_format_0.slots A) (F0 m 239 ls [])
def PMX12_format_0_192 (p : Program) (l : Launch) (e : Env) (s : State) (m : MethodId) (args : Array Value) (below : List Frame) (meth : Method) (c : Code) (A : Nat → Prop) (K : KX) (t : (Int32 × XS)) (o : (Int32 × XS)) : Prop := ∀ (H : Heap) (locs : List Loc) (ls : Array Slot), lv_has ls 8 [(0, .ref (ka K 0)), (7, .int t.1)] → gw_ (kD K) vwCl (tyM K) (wM K) A s t.2 H locs → W p l e rMX12_format_0 s m args below meth c H locs 0 0 (MQ below (gw_Qi (kD K) vwCl (tyM K) (wM K) A o) args s rMX12_format_0.cells rMX12_format_0.slots A) (F0 m 192 ls [])
set_option maxHeartbeats 4000000 in
set_option maxRecDepth 100000 in
theorem wMX12_format_0_270 {p : Program} {l : Launch} {e : Env} {s : State} {m : MethodId} {args : Array Value} {below : List Frame} {meth : Method} {c : Code} {A : Nat → Prop} {K : KX} (F : fx_ p s m args meth c cX12_format 8 (some .int) RX12 wsX12_format) {k239 : (Int32 × XS) → Option (Int32 × XS)} (hk239 : ∀ t o, k239 t = some o → PMX12_format_0_239 p l e s m args below meth c A K t o) (x7 : Int32) (y0 : Int32) (y1 : Int32) (σ : XS) (o : (Int32 × XS)) (hf : fMX12_format_0_270 (kn K) k239 x7 y0 y1 σ = some o) (H : Heap) (locs : List Loc) (ls : Array Slot) (hl : lv_has ls 8 [(0, .ref (ka K 0)), (7, .int x7)]) (hW : gw_ (kD K) vwCl (tyM K) (wM K) A s σ H locs) : W p l e rMX12_format_0 s m args below meth c H locs 0 0 (MQ below (gw_Qi (kD K) vwCl (tyM K) (wM K) A o) args s rMX12_format_0.cells rMX12_format_0.slots A) (F0 m 270 ls [.int y0, .int y1, .ref (ka K 7)]) := by
  have hx := F.1
  have hb := F.2.1
  have hml := F.2.2.2.1
  have hown := F.2.2.2.2.1
  have hts := F.2.2.2.2.2.1
  have hG : ∀ x ∈ gT, x.before args s = true := fun x h => hts x (List.mem_cons_of_mem _ h)
  unfold fMX12_format_0_270 at hf
  rcases Decidable.em (y1 < 0 ∨ 2100 ≤ y1.toNatClampNeg) with c26 | c26
  · replace hf := (if_pos c26).symm.trans hf
    exact absurd hf (by simp)
  · replace hf := (if_neg c26).symm.trans hf
    refine gw_iast (σ' := (stA σ 6 y1.toNatClampNeg y0)) F hW 7 6 (aM_7 K σ) rfl c26 dX12_format_270 (sAM_6 _ _ _) (fun H locs hW => ?_)
    refine lv_aload_n hx hb dX12_format_271 rfl (lv_at hl 0 rfl) ?_
    refine lv_iload hx hb dX12_format_272 (lv_at hl 1 rfl) ?_
    obtain ⟨o27, h28, hf⟩ := gw_bind hf
    refine gw_Vv (As := [.int x7]) (mc' := 0) (ms' := 0) F hW (mMX12_clear_0 h28) (cwV 1 hts (gT_V q_6_237 q_6_239 qp_36 q_1_12 q_7_0) rfl rfl rfl hdX12_clear ⟨Nat.le_of_ble_eq_true rfl, Nat.le_of_ble_eq_true rfl⟩) 0 10 (aM_0 K (stA σ 6 y1.toNatClampNeg y0)) rfl rfl hl.1 rfl (Nat.le_of_ble_eq_true rfl) dX12_format_274 ⟨Nat.le_of_ble_eq_true rfl, Nat.le_of_ble_eq_true rfl⟩ rfl rfl (fun H locs hW => ?_)
    refine lv_iinc (v := (x7 + (1 : Int32))) (lv' := [(7, .int (x7 + (1 : Int32))), (0, .ref (ka K 0))]) hx hb dX12_format_277 hl (k := 1) rfl rfl (by decide) rfl (fun ls hl => ?_)
    refine lv_goto (tgt := 239) hx hb dX12_format_280 (by decide) ?_
    exact hk239 _ _ hf _ _ _ (lv_sub hl [1, 0] rfl) hW
set_option maxHeartbeats 4000000 in
set_option maxRecDepth 100000 in
theorem wMX12_format_0_269 {p : Program} {l : Launch} {e : Env} {s : State} {m : MethodId} {args : Array Value} {below : List Frame} {meth : Method} {c : Code} {A : Nat → Prop} {K : KX} (F : fx_ p s m args meth c cX12_format 8 (some .int) RX12 wsX12_format) {k239 : (Int32 × XS) → Option (Int32 × XS)} (hk239 : ∀ t o, k239 t = some o → PMX12_format_0_239 p l e s m args below meth c A K t o) (x7 : Int32) (y0 : Int32) (σ : XS) (o : (Int32 × XS)) (hf : fMX12_format_0_269 (kn K) k239 x7 y0 σ = some o) (H : Heap) (locs : List Loc) (ls : Array Slot) (hl : lv_has ls 8 [(0, .ref (ka K 0)), (7, .int x7)]) (hW : gw_ (kD K) vwCl (tyM K) (wM K) A s σ H locs) : W p l e rMX12_format_0 s m args below meth c H locs 0 0 (MQ below (gw_Qi (kD K) vwCl (tyM K) (wM K) A o) args s rMX12_format_0.cells rMX12_format_0.slots A) (F0 m 269 ls [.int y0, .ref (ka K 7)]) := by
  have hx := F.1
  have hb := F.2.1
  have hml := F.2.2.2.1
  have hown := F.2.2.2.2.1
  have hts := F.2.2.2.2.2.1
  have hG : ∀ x ∈ gT, x.before args s = true := fun x h => hts x (List.mem_cons_of_mem _ h)
  unfold fMX12_format_0_269 at hf
  refine lv_iconst (v := (0 : Int32)) hx hb dX12_format_269 (by decide) ?_
  exact wMX12_format_0_270 F hk239 x7 (0 : Int32) y0 _ _ hf _ _ _ (lv_sub hl [0, 1] rfl) hW
set_option maxHeartbeats 4000000 in
set_option maxRecDepth 100000 in
theorem wMX12_format_0_239 {p : Program} {l : Launch} {e : Env} {s : State} {m : MethodId} {args : Array Value} {below : List Frame} {meth : Method} {c : Code} {A : Nat → Prop} {K : KX} (F : fx_ p s m args meth c cX12_format 8 (some .int) RX12 wsX12_format) {k239 : (Int32 × XS) → Option (Int32 × XS)} (hk239 : ∀ t o, k239 t = some o → PMX12_format_0_239 p l e s m args below meth c A K t o) (x7 : Int32) (σ : XS) (o : (Int32 × XS)) (hf : fMX12_format_0_239 (kn K) k239 x7 σ = some o) (H : Heap) (locs : List Loc) (ls : Array Slot) (hl : lv_has ls 8 [(0, .ref (ka K 0)), (7, .int x7)]) (hW : gw_ (kD K) vwCl (tyM K) (wM K) A s σ H locs) : W p l e rMX12_format_0 s m args below meth c H locs 0 0 (MQ below (gw_Qi (kD K) vwCl (tyM K) (wM K) A o) args s rMX12_format_0.cells rMX12_format_0.slots A) (F0 m 239 ls []) := by
  have hx := F.1
  have hb := F.2.1
  have hml := F.2.2.2.1
  have hown := F.2.2.2.2.1
  have hts := F.2.2.2.2.2.1
  have hG : ∀ x ∈ gT, x.before args s = true := fun x h => hts x (List.mem_cons_of_mem _ h)
  unfold fMX12_format_0_239 at hf
  refine lv_iload hx hb dX12_format_239 (lv_at hl 1 rfl) ?_
  refine lv_sipush (v := (2100 : Int32)) hx hb dX12_format_241 (by decide) ?_
  refine lv_icmp_ge (tgt := 283) hx hb dX12_format_244 (by decide) (fun c15 => ?_) (fun c15 => ?_)
  · replace hf := (if_pos c15).symm.trans hf
    refine lv_aload_n hx hb dX12_format_283 rfl (lv_at hl 0 rfl) ?_
    refine gw_get (v := .ref (ka K 7)) F inc_X12 hW 0 10 16 (aM_0 K σ) rfl (by decide) (hG _ q_6_128) (fun _ h9 => h9) rfl dX12_format_284 ?_
    refine lv_iconst (v := (2 : Int32)) hx hb dX12_format_287 (by decide) ?_
    refine lv_iconst (v := (2 : Int32)) hx hb dX12_format_288 (by decide) ?_
    rcases Decidable.em ((2 : Int32) < 0 ∨ 2100 ≤ (2 : Int32).toNatClampNeg) with c16 | c16
    · replace hf := (if_pos c16).symm.trans hf
      exact absurd hf (by simp)
    · replace hf := (if_neg c16).symm.trans hf
      refine gw_iast (σ' := (stA σ 6 (2 : Int32).toNatClampNeg (2 : Int32))) F hW 7 6 (aM_7 K σ) rfl c16 dX12_format_289 (sAM_6 _ _ _) (fun H locs hW => ?_)
      refine lv_aload_n hx hb dX12_format_290 rfl (lv_at hl 0 rfl) ?_
      refine gw_get (v := .ref (ka K 16)) F inc_X12 hW 0 10 25 (aM_0 K (stA σ 6 (2 : Int32).toNatClampNeg (2 : Int32))) rfl (by decide) (hG _ q_6_137) (fun _ h9 => h9) rfl dX12_format_291 ?_
      refine lv_iconst (v := (2 : Int32)) hx hb dX12_format_294 (by decide) ?_
      refine lv_iconst (v := (2 : Int32)) hx hb dX12_format_295 (by decide) ?_
      rcases Decidable.em ((2 : Int32) < 0 ∨ 2100 ≤ (2 : Int32).toNatClampNeg) with c17 | c17
      · replace hf := (if_pos c17).symm.trans hf
        exact absurd hf (by simp)
      · replace hf := (if_neg c17).symm.trans hf
        refine gw_iast (σ' := (stA (stA σ 6 (2 : Int32).toNatClampNeg (2 : Int32)) 15 (2 : Int32).toNatClampNeg (2 : Int32))) F hW 16 15 (aM_16 K (stA σ 6 (2 : Int32).toNatClampNeg (2 : Int32))) rfl c17 dX12_format_296 (sAM_15 _ _ _) (fun H locs hW => ?_)
        refine lv_aload_n hx hb dX12_format_297 rfl (lv_at hl 0 rfl) ?_
        refine gw_get (v := .ref (ka K 9)) F inc_X12 hW 0 10 18 (aM_0 K (stA (stA σ 6 (2 : Int32).toNatClampNeg (2 : Int32)) 15 (2 : Int32).toNatClampNeg (2 : Int32))) rfl (by decide) (hG _ q_6_130) (fun _ h9 => h9) rfl dX12_format_298 ?_
        refine lv_iconst (v := (2 : Int32)) hx hb dX12_format_301 (by decide) ?_
        refine lv_iconst (v := (2 : Int32)) hx hb dX12_format_302 (by decide) ?_
        rcases Decidable.em ((2 : Int32) < 0 ∨ 2100 ≤ (2 : Int32).toNatClampNeg) with c18 | c18
        · replace hf := (if_pos c18).symm.trans hf
          exact absurd hf (by simp)
        · replace hf := (if_neg c18).symm.trans hf
          refine gw_iast (σ' := (stA (stA (stA σ 6 (2 : Int32).toNatClampNeg (2 : Int32)) 15 (2 : Int32).toNatClampNeg (2 : Int32)) 8 (2 : Int32).toNatClampNeg (2 : Int32))) F hW 9 8 (aM_9 K (stA (stA σ 6 (2 : Int32).toNatClampNeg (2 : Int32)) 15 (2 : Int32).toNatClampNeg (2 : Int32))) rfl c18 dX12_format_303 (sAM_8 _ _ _) (fun H locs hW => ?_)
          refine lv_aload_n hx hb dX12_format_304 rfl (lv_at hl 0 rfl) ?_
          refine lv_iconst (v := (2 : Int32)) hx hb dX12_format_305 (by decide) ?_
          obtain ⟨o19, h20, hf⟩ := gw_bind hf
          refine gw_Vv (As := [.int (2 : Int32)]) (mc' := 0) (ms' := 0) F hW (mMX12_folder_0 h20) (cwV 1 hts (gT_V q_7_1 q_7_3 qp_37 q_1_12 q_7_4) rfl rfl rfl hdX12_folder ⟨Nat.le_of_ble_eq_true rfl, Nat.le_of_ble_eq_true rfl⟩) 0 10 (aM_0 K (stA (stA (stA σ 6 (2 : Int32).toNatClampNeg (2 : Int32)) 15 (2 : Int32).toNatClampNeg (2 : Int32)) 8 (2 : Int32).toNatClampNeg (2 : Int32))) rfl rfl hl.1 rfl (Nat.le_of_ble_eq_true rfl) dX12_format_306 ⟨Nat.le_of_ble_eq_true rfl, Nat.le_of_ble_eq_true rfl⟩ rfl rfl (fun H locs hW => ?_)
          refine lv_aload_n hx hb dX12_format_309 rfl (lv_at hl 0 rfl) ?_
          refine lv_iconst (v := (2 : Int32)) hx hb dX12_format_310 (by decide) ?_
          refine gw_put (σ' := (stS o19 9 (2 : Int32))) (ty := .int) F inc_X12 tyX12 tyX12_ok nmX12 hW 0 10 27 (aM_0 K o19) rfl (by decide) (hG _ q_6_139) (fun _ h9 => h9) rfl (by decide +kernel) rfl rfl (Nat.le_of_ble_eq_true rfl) dX12_format_311 (sSM_9 _ _ _) (fun H locs hW => ?_)
          refine lv_aload_n hx hb dX12_format_314 rfl (lv_at hl 0 rfl) ?_
          refine lv_iconst (v := (1 : Int32)) hx hb dX12_format_315 (by decide) ?_
          refine gw_put (σ' := (stS (stS o19 9 (2 : Int32)) 2 (1 : Int32))) (ty := .boolean) F inc_X12 tyX12 tyX12_ok nmX12 hW 0 10 7 (aM_0 K (stS o19 9 (2 : Int32))) rfl (by decide) (hG _ q_6_119) (fun _ h9 => h9) rfl (by decide +kernel) rfl rfl (Nat.le_of_ble_eq_true rfl) dX12_format_316 (sSM_2 _ _ _) (fun H locs hW => ?_)
          refine lv_aload_n hx hb dX12_format_319 rfl (lv_at hl 0 rfl) ?_
          refine lv_iconst (v := (0 : Int32)) hx hb dX12_format_320 (by decide) ?_
          refine gw_put (σ' := (stS (stS (stS o19 9 (2 : Int32)) 2 (1 : Int32)) 3 (0 : Int32))) (ty := .boolean) F inc_X12 tyX12 tyX12_ok nmX12 hW 0 10 8 (aM_0 K (stS (stS o19 9 (2 : Int32)) 2 (1 : Int32))) rfl (by decide) (hG _ q_6_120) (fun _ h9 => h9) rfl (by decide +kernel) rfl rfl (Nat.le_of_ble_eq_true rfl) dX12_format_321 (sSM_3 _ _ _) (fun H locs hW => ?_)
          refine lv_aload_n hx hb dX12_format_324 rfl (lv_at hl 0 rfl) ?_
          obtain ⟨o22, h23, hf⟩ := gw_bind hf
          refine gw_Vi (As := []) (mc' := 0) (ms' := 0) F hW (mMX12_freeBlocks_0 h23) (cwV 0 hts (gT_V q_7_21 q_7_23 qp_42 q_1_12 q_7_24) rfl rfl rfl hdX12_freeBlocks ⟨Nat.le_of_ble_eq_true rfl, Nat.le_of_ble_eq_true rfl⟩) 0 10 (aM_0 K (stS (stS (stS o19 9 (2 : Int32)) 2 (1 : Int32)) 3 (0 : Int32))) rfl rfl hl.1 rfl (Nat.le_of_ble_eq_true rfl) dX12_format_325 ⟨Nat.le_of_ble_eq_true rfl, Nat.le_of_ble_eq_true rfl⟩ rfl rfl (fun H locs hW => ?_)
          exact gw_reti F hW hf dX12_format_328
  · replace hf := (if_neg c15).symm.trans hf
    refine lv_aload_n hx hb dX12_format_247 rfl (lv_at hl 0 rfl) ?_
    refine gw_get (v := .ref (ka K 7)) F inc_X12 hW 0 10 16 (aM_0 K σ) rfl (by decide) (hG _ q_6_128) (fun _ h9 => h9) rfl dX12_format_248 ?_
    refine lv_iload hx hb dX12_format_251 (lv_at hl 1 rfl) ?_
    refine lv_iload hx hb dX12_format_253 (lv_at hl 1 rfl) ?_
    refine lv_if_le (tgt := 269) hx hb dX12_format_255 (by decide) (fun c25 => ?_) (fun c25 => ?_)
    · replace hf := (if_pos c25).symm.trans hf
      exact wMX12_format_0_269 F hk239 x7 x7 _ _ hf _ _ _ (lv_sub hl [0, 1] rfl) hW
    · replace hf := (if_neg c25).symm.trans hf
      refine lv_iload hx hb dX12_format_258 (lv_at hl 1 rfl) ?_
      refine lv_bipush (v := (12 : Int32)) hx hb dX12_format_260 (by decide) ?_
      refine lv_icmp_ge (tgt := 269) hx hb dX12_format_262 (by decide) (fun c30 => ?_) (fun c30 => ?_)
      · replace hf := (if_pos c30).symm.trans hf
        exact wMX12_format_0_269 F hk239 x7 x7 _ _ hf _ _ _ (lv_sub hl [0, 1] rfl) hW
      · replace hf := (if_neg c30).symm.trans hf
        refine lv_iconst (v := (3 : Int32)) hx hb dX12_format_265 (by decide) ?_
        refine lv_goto (tgt := 270) hx hb dX12_format_266 (by decide) ?_
        exact wMX12_format_0_270 F hk239 x7 (3 : Int32) x7 _ _ hf _ _ _ (lv_sub hl [0, 1] rfl) hW
set_option maxHeartbeats 4000000 in
set_option maxRecDepth 100000 in
theorem wMX12_format_0_229 {p : Program} {l : Launch} {e : Env} {s : State} {m : MethodId} {args : Array Value} {below : List Frame} {meth : Method} {c : Code} {A : Nat → Prop} {K : KX} (F : fx_ p s m args meth c cX12_format 8 (some .int) RX12 wsX12_format) {k192 : (Int32 × XS) → Option (Int32 × XS)} (hk192 : ∀ t o, k192 t = some o → PMX12_format_0_192 p l e s m args below meth c A K t o) (x7 : Int32) (y0 : Int32) (y1 : Int32) (σ : XS) (o : (Int32 × XS)) (hf : fMX12_format_0_229 (kn K) k192 x7 y0 y1 σ = some o) (H : Heap) (locs : List Loc) (ls : Array Slot) (hl : lv_has ls 8 [(0, .ref (ka K 0)), (7, .int x7)]) (hW : gw_ (kD K) vwCl (tyM K) (wM K) A s σ H locs) : W p l e rMX12_format_0 s m args below meth c H locs 0 0 (MQ below (gw_Qi (kD K) vwCl (tyM K) (wM K) A o) args s rMX12_format_0.cells rMX12_format_0.slots A) (F0 m 229 ls [.int y0, .int y1, .ref (ka K 5)]) := by
  have hx := F.1
  have hb := F.2.1
  have hml := F.2.2.2.1
  have hown := F.2.2.2.2.1
  have hts := F.2.2.2.2.2.1
  have hG : ∀ x ∈ gT, x.before args s = true := fun x h => hts x (List.mem_cons_of_mem _ h)
  unfold fMX12_format_0_229 at hf
  rcases Decidable.em (y1 < 0 ∨ 512 ≤ y1.toNatClampNeg) with c32 | c32
  · replace hf := (if_pos c32).symm.trans hf
    exact absurd hf (by simp)
  · replace hf := (if_neg c32).symm.trans hf
    refine gw_zast (σ' := (stA σ 4 y1.toNatClampNeg (vp_nar .boolean y0))) F hW 5 4 (aM_5 K σ) rfl c32 dX12_format_229 (sAM_4 _ _ _) (fun H locs hW => ?_)
    refine lv_iinc (v := (x7 + (1 : Int32))) (lv' := [(7, .int (x7 + (1 : Int32))), (0, .ref (ka K 0))]) hx hb dX12_format_230 hl (k := 1) rfl rfl (by decide) rfl (fun ls hl => ?_)
    refine lv_goto (tgt := 192) hx hb dX12_format_233 (by decide) ?_
    exact hk192 _ _ hf _ _ _ (lv_sub hl [1, 0] rfl) hW
set_option maxHeartbeats 4000000 in
set_option maxRecDepth 100000 in
theorem wMX12_format_0_224 {p : Program} {l : Launch} {e : Env} {s : State} {m : MethodId} {args : Array Value} {below : List Frame} {meth : Method} {c : Code} {A : Nat → Prop} {K : KX} (F : fx_ p s m args meth c cX12_format 8 (some .int) RX12 wsX12_format) {k192 : (Int32 × XS) → Option (Int32 × XS)} (hk192 : ∀ t o, k192 t = some o → PMX12_format_0_192 p l e s m args below meth c A K t o) (x7 : Int32) (y0 : Int32) (σ : XS) (o : (Int32 × XS)) (hf : fMX12_format_0_224 (kn K) k192 x7 y0 σ = some o) (H : Heap) (locs : List Loc) (ls : Array Slot) (hl : lv_has ls 8 [(0, .ref (ka K 0)), (7, .int x7)]) (hW : gw_ (kD K) vwCl (tyM K) (wM K) A s σ H locs) : W p l e rMX12_format_0 s m args below meth c H locs 0 0 (MQ below (gw_Qi (kD K) vwCl (tyM K) (wM K) A o) args s rMX12_format_0.cells rMX12_format_0.slots A) (F0 m 224 ls [.int y0, .ref (ka K 5)]) := by
  have hx := F.1
  have hb := F.2.1
  have hml := F.2.2.2.1
  have hown := F.2.2.2.2.1
  have hts := F.2.2.2.2.2.1
  have hG : ∀ x ∈ gT, x.before args s = true := fun x h => hts x (List.mem_cons_of_mem _ h)
  unfold fMX12_format_0_224 at hf
  refine lv_iconst (v := (1 : Int32)) hx hb dX12_format_224 (by decide) ?_
  refine lv_goto (tgt := 229) hx hb dX12_format_225 (by decide) ?_
  exact wMX12_format_0_229 F hk192 x7 (1 : Int32) y0 _ _ hf _ _ _ (lv_sub hl [0, 1] rfl) hW
set_option maxHeartbeats 4000000 in
set_option maxRecDepth 100000 in
theorem wMX12_format_0_192 {p : Program} {l : Launch} {e : Env} {s : State} {m : MethodId} {args : Array Value} {below : List Frame} {meth : Method} {c : Code} {A : Nat → Prop} {K : KX} (F : fx_ p s m args meth c cX12_format 8 (some .int) RX12 wsX12_format) {k192 : (Int32 × XS) → Option (Int32 × XS)} (hk192 : ∀ t o, k192 t = some o → PMX12_format_0_192 p l e s m args below meth c A K t o) (x7 : Int32) (σ : XS) (o : (Int32 × XS)) (hf : fMX12_format_0_192 (kn K) k192 x7 σ = some o) (H : Heap) (locs : List Loc) (ls : Array Slot) (hl : lv_has ls 8 [(0, .ref (ka K 0)), (7, .int x7)]) (hW : gw_ (kD K) vwCl (tyM K) (wM K) A s σ H locs) : W p l e rMX12_format_0 s m args below meth c H locs 0 0 (MQ below (gw_Qi (kD K) vwCl (tyM K) (wM K) A o) args s rMX12_format_0.cells rMX12_format_0.slots A) (F0 m 192 ls []) := by
  have hx := F.1
  have hb := F.2.1
  have hml := F.2.2.2.1
  have hown := F.2.2.2.2.1
  have hts := F.2.2.2.2.2.1
  have hG : ∀ x ∈ gT, x.before args s = true := fun x h => hts x (List.mem_cons_of_mem _ h)
  unfold fMX12_format_0_192 at hf
  refine lv_iload hx hb dX12_format_192 (lv_at hl 1 rfl) ?_
  refine lv_sipush (v := (512 : Int32)) hx hb dX12_format_194 (by decide) ?_
  refine lv_icmp_ge (tgt := 236) hx hb dX12_format_197 (by decide) (fun c14 => ?_) (fun c14 => ?_)
  · replace hf := (if_pos c14).symm.trans hf
    refine lv_iconst (v := (0 : Int32)) hx hb dX12_format_236 (by decide) ?_
    refine lv_istore (lv' := [(7, .int (0 : Int32)), (0, .ref (ka K 0))]) hx hb dX12_format_237 hl (by decide) rfl (fun ls hl => ?_)
    exact lfix_ind (P := PMX12_format_0_239 p l e s m args below meth c A K) (fun k239 hk239 t o hf => wMX12_format_0_239 F hk239 t.1 t.2 o hf) FU _ _ hf _ _ _ (lv_sub hl [1, 0] rfl) hW
  · replace hf := (if_neg c14).symm.trans hf
    refine lv_aload_n hx hb dX12_format_200 rfl (lv_at hl 0 rfl) ?_
    refine gw_get (v := .ref (ka K 5)) F inc_X12 hW 0 10 14 (aM_0 K σ) rfl (by decide) (hG _ q_6_126) (fun _ h9 => h9) rfl dX12_format_201 ?_
    refine lv_iload hx hb dX12_format_204 (lv_at hl 1 rfl) ?_
    refine lv_iload hx hb dX12_format_206 (lv_at hl 1 rfl) ?_
    refine lv_aload_n hx hb dX12_format_208 rfl (lv_at hl 0 rfl) ?_
    refine gw_get (v := .int (Int32.ofNat (kn K))) F inc_X12 hW 0 10 1 (aM_0 K σ) rfl (by decide) (hG _ q_6_113) (fun _ h9 => h9) rfl dX12_format_209 ?_
    refine lv_icmp_ge (tgt := 224) hx hb dX12_format_212 (by decide) (fun c31 => ?_) (fun c31 => ?_)
    · replace hf := (if_pos c31).symm.trans hf
      exact wMX12_format_0_224 F hk192 x7 x7 _ _ hf _ _ _ (lv_sub hl [0, 1] rfl) hW
    · replace hf := (if_neg c31).symm.trans hf
      refine lv_aload_n hx hb dX12_format_215 rfl (lv_at hl 0 rfl) ?_
      refine lv_iload hx hb dX12_format_216 (lv_at hl 1 rfl) ?_
      obtain ⟨o33, h34, hf⟩ := gw_bind hf
      refine gw_Vz (As := [.int x7]) (mc' := 0) (ms' := 0) F hW (mMX12_isFixed_0 h34) (cwV 1 hts (gT_V q_6_233 q_6_235 qp_35 q_1_12 q_6_236) rfl rfl rfl hdX12_isFixed ⟨Nat.le_of_ble_eq_true rfl, Nat.le_of_ble_eq_true rfl⟩) 0 10 (aM_0 K σ) rfl rfl hl.1 rfl (Nat.le_of_ble_eq_true rfl) dX12_format_218 ⟨Nat.le_of_ble_eq_true rfl, Nat.le_of_ble_eq_true rfl⟩ rfl rfl (fun H locs z35 hW => ?_)
      refine lv_if_eq (tgt := 228) hx hb dX12_format_221 (by decide) (fun c36 => ?_) (fun c36 => ?_)
      · replace hf := (if_pos c36).symm.trans hf
        refine lv_iconst (v := (0 : Int32)) hx hb dX12_format_228 (by decide) ?_
        exact wMX12_format_0_229 F hk192 x7 (0 : Int32) x7 _ _ hf _ _ _ (lv_sub hl [0, 1] rfl) hW
      · replace hf := (if_neg c36).symm.trans hf
        exact wMX12_format_0_224 F hk192 x7 x7 _ _ hf _ _ _ (lv_sub hl [0, 1] rfl) hW
set_option maxHeartbeats 4000000 in
set_option maxRecDepth 100000 in
theorem wMX12_format_0_144 {p : Program} {l : Launch} {e : Env} {s : State} {m : MethodId} {args : Array Value} {below : List Frame} {meth : Method} {c : Code} {A : Nat → Prop} {K : KX} (F : fx_ p s m args meth c cX12_format 8 (some .int) RX12 wsX12_format) (x1 : Int32) (x3 : Int32) (x4 : Int32) (x5 : Int32) (y0 : Int32) (σ : XS) (o : (Int32 × XS)) (hf : fMX12_format_0_144 (kn K) x1 x3 x4 x5 y0 σ = some o) (H : Heap) (locs : List Loc) (ls : Array Slot) (hl : lv_has ls 8 [(0, .ref (ka K 0)), (1, .int x1), (3, .int x3), (4, .int x4), (5, .int x5)]) (hW : gw_ (kD K) vwCl (tyM K) (wM K) A s σ H locs) : W p l e rMX12_format_0 s m args below meth c H locs 0 0 (MQ below (gw_Qi (kD K) vwCl (tyM K) (wM K) A o) args s rMX12_format_0.cells rMX12_format_0.slots A) (F0 m 144 ls [.int y0, .ref (ka K 0)]) := by
  have hx := F.1
  have hb := F.2.1
  have hml := F.2.2.2.1
  have hown := F.2.2.2.2.1
  have hts := F.2.2.2.2.2.1
  have hG : ∀ x ∈ gT, x.before args s = true := fun x h => hts x (List.mem_cons_of_mem _ h)
  unfold fMX12_format_0_144 at hf
  refine gw_put (σ' := (stS σ 0 y0)) (ty := .int) F inc_X12 tyX12 tyX12_ok nmX12 hW 0 10 0 (aM_0 K σ) rfl (by decide) (hG _ q_6_112) (fun _ h9 => h9) rfl (by decide +kernel) rfl rfl (Nat.le_of_ble_eq_true rfl) dX12_format_144 (sSM_0 _ _ _) (fun H locs hW => ?_)
  refine lv_aload_n hx hb dX12_format_147 rfl (lv_at hl 0 rfl) ?_
  refine gw_get (v := .int y0) F inc_X12 hW 0 10 0 (aM_0 K (stS σ 0 y0)) rfl (by decide) (hG _ q_6_112) (fun _ h9 => h9) rfl dX12_format_148 ?_
  refine lv_if_le (tgt := 156) hx hb dX12_format_151 (by decide) (fun c13 => ?_) (fun c13 => ?_)
  · replace hf := (if_pos c13).symm.trans hf
    refine lv_aload_n hx hb dX12_format_156 rfl (lv_at hl 0 rfl) ?_
    refine lv_iload_n hx hb dX12_format_157 rfl (lv_at hl 1 rfl) ?_
    refine gw_put (σ' := (stS (stS σ 0 y0) 4 x1)) (ty := .int) F inc_X12 tyX12 tyX12_ok nmX12 hW 0 10 9 (aM_0 K (stS σ 0 y0)) rfl (by decide) (hG _ q_6_121) (fun _ h9 => h9) rfl (by decide +kernel) rfl rfl (Nat.le_of_ble_eq_true rfl) dX12_format_158 (sSM_4 _ _ _) (fun H locs hW => ?_)
    refine lv_aload_n hx hb dX12_format_161 rfl (lv_at hl 0 rfl) ?_
    refine lv_iload hx hb dX12_format_162 (lv_at hl 3 rfl) ?_
    refine gw_put (σ' := (stS (stS (stS σ 0 y0) 4 x1) 7 x4)) (ty := .int) F inc_X12 tyX12 tyX12_ok nmX12 hW 0 10 12 (aM_0 K (stS (stS σ 0 y0) 4 x1)) rfl (by decide) (hG _ q_6_124) (fun _ h9 => h9) rfl (by decide +kernel) rfl rfl (Nat.le_of_ble_eq_true rfl) dX12_format_164 (sSM_7 _ _ _) (fun H locs hW => ?_)
    refine lv_aload_n hx hb dX12_format_167 rfl (lv_at hl 0 rfl) ?_
    refine lv_iload hx hb dX12_format_168 (lv_at hl 4 rfl) ?_
    refine gw_put (σ' := (stS (stS (stS (stS σ 0 y0) 4 x1) 7 x4) 5 x5)) (ty := .int) F inc_X12 tyX12 tyX12_ok nmX12 hW 0 10 10 (aM_0 K (stS (stS (stS σ 0 y0) 4 x1) 7 x4)) rfl (by decide) (hG _ q_6_122) (fun _ h9 => h9) rfl (by decide +kernel) rfl rfl (Nat.le_of_ble_eq_true rfl) dX12_format_170 (sSM_5 _ _ _) (fun H locs hW => ?_)
    refine lv_aload_n hx hb dX12_format_173 rfl (lv_at hl 0 rfl) ?_
    refine lv_aload_n hx hb dX12_format_174 rfl (lv_at hl 0 rfl) ?_
    refine gw_get (v := .int x5) F inc_X12 hW 0 10 10 (aM_0 K (stS (stS (stS (stS σ 0 y0) 4 x1) 7 x4) 5 x5)) rfl (by decide) (hG _ q_6_122) (fun _ h9 => h9) rfl dX12_format_175 ?_
    refine lv_bipush (v := (8 : Int32)) hx hb dX12_format_178 (by decide) ?_
    refine lv_idiv hx hb dX12_format_180 (by decide) ?_
    refine gw_put (σ' := (stS (stS (stS (stS (stS σ 0 y0) 4 x1) 7 x4) 5 x5) 6 (x5 / (8 : Int32)))) (ty := .int) F inc_X12 tyX12 tyX12_ok nmX12 hW 0 10 11 (aM_0 K (stS (stS (stS (stS σ 0 y0) 4 x1) 7 x4) 5 x5)) rfl (by decide) (hG _ q_6_123) (fun _ h9 => h9) rfl (by decide +kernel) rfl rfl (Nat.le_of_ble_eq_true rfl) dX12_format_181 (sSM_6 _ _ _) (fun H locs hW => ?_)
    refine lv_aload_n hx hb dX12_format_184 rfl (lv_at hl 0 rfl) ?_
    refine lv_iload_n hx hb dX12_format_185 rfl (lv_at hl 2 rfl) ?_
    refine gw_put (σ' := (stS (stS (stS (stS (stS (stS σ 0 y0) 4 x1) 7 x4) 5 x5) 6 (x5 / (8 : Int32))) 8 x3)) (ty := .int) F inc_X12 tyX12 tyX12_ok nmX12 hW 0 10 13 (aM_0 K (stS (stS (stS (stS (stS σ 0 y0) 4 x1) 7 x4) 5 x5) 6 (x5 / (8 : Int32)))) rfl (by decide) (hG _ q_6_125) (fun _ h9 => h9) rfl (by decide +kernel) rfl rfl (Nat.le_of_ble_eq_true rfl) dX12_format_186 (sSM_8 _ _ _) (fun H locs hW => ?_)
    refine lv_iconst (v := (0 : Int32)) hx hb dX12_format_189 (by decide) ?_
    refine lv_istore (lv' := [(7, .int (0 : Int32)), (0, .ref (ka K 0)), (1, .int x1), (3, .int x3), (4, .int x4), (5, .int x5)]) hx hb dX12_format_190 hl (by decide) rfl (fun ls hl => ?_)
    exact lfix_ind (P := PMX12_format_0_192 p l e s m args below meth c A K) (fun k192 hk192 t o hf => wMX12_format_0_192 F hk192 t.1 t.2 o hf) FU _ _ hf _ _ _ (lv_sub hl [1, 0] rfl) hW
  · replace hf := (if_neg c13).symm.trans hf
    refine lv_iconst (v := (0 : Int32)) hx hb dX12_format_154 (by decide) ?_
    exact gw_reti F hW hf dX12_format_155
set_option maxHeartbeats 4000000 in
set_option maxRecDepth 100000 in
theorem wMX12_format_0_139 {p : Program} {l : Launch} {e : Env} {s : State} {m : MethodId} {args : Array Value} {below : List Frame} {meth : Method} {c : Code} {A : Nat → Prop} {K : KX} (F : fx_ p s m args meth c cX12_format 8 (some .int) RX12 wsX12_format) (x1 : Int32) (x3 : Int32) (x4 : Int32) (x5 : Int32) (σ : XS) (o : (Int32 × XS)) (hf : fMX12_format_0_139 (kn K) x1 x3 x4 x5 σ = some o) (H : Heap) (locs : List Loc) (ls : Array Slot) (hl : lv_has ls 8 [(0, .ref (ka K 0)), (1, .int x1), (3, .int x3), (4, .int x4), (5, .int x5)]) (hW : gw_ (kD K) vwCl (tyM K) (wM K) A s σ H locs) : W p l e rMX12_format_0 s m args below meth c H locs 0 0 (MQ below (gw_Qi (kD K) vwCl (tyM K) (wM K) A o) args s rMX12_format_0.cells rMX12_format_0.slots A) (F0 m 139 ls [.ref (ka K 0)]) := by
  have hx := F.1
  have hb := F.2.1
  have hml := F.2.2.2.1
  have hown := F.2.2.2.2.1
  have hts := F.2.2.2.2.2.1
  have hG : ∀ x ∈ gT, x.before args s = true := fun x h => hts x (List.mem_cons_of_mem _ h)
  unfold fMX12_format_0_139 at hf
  refine lv_iconst (v := (1 : Int32)) hx hb dX12_format_139 (by decide) ?_
  refine lv_goto (tgt := 144) hx hb dX12_format_140 (by decide) ?_
  exact wMX12_format_0_144 F x1 x3 x4 x5 (1 : Int32) _ _ hf _ _ _ (lv_sub hl [0, 1, 2, 3, 4] rfl) hW
set_option maxHeartbeats 4000000 in
set_option maxRecDepth 100000 in
theorem wMX12_format_0_126 {p : Program} {l : Launch} {e : Env} {s : State} {m : MethodId} {args : Array Value} {below : List Frame} {meth : Method} {c : Code} {A : Nat → Prop} {K : KX} (F : fx_ p s m args meth c cX12_format 8 (some .int) RX12 wsX12_format) (x1 : Int32) (x3 : Int32) (x4 : Int32) (x5 : Int32) (x6 : Int32) (σ : XS) (o : (Int32 × XS)) (hf : fMX12_format_0_126 (kn K) x1 x3 x4 x5 x6 σ = some o) (H : Heap) (locs : List Loc) (ls : Array Slot) (hl : lv_has ls 8 [(0, .ref (ka K 0)), (1, .int x1), (3, .int x3), (4, .int x4), (5, .int x5), (6, .int x6)]) (hW : gw_ (kD K) vwCl (tyM K) (wM K) A s σ H locs) : W p l e rMX12_format_0 s m args below meth c H locs 0 0 (MQ below (gw_Qi (kD K) vwCl (tyM K) (wM K) A o) args s rMX12_format_0.cells rMX12_format_0.slots A) (F0 m 126 ls [.ref (ka K 0)]) := by
  have hx := F.1
  have hb := F.2.1
  have hml := F.2.2.2.1
  have hown := F.2.2.2.2.1
  have hts := F.2.2.2.2.2.1
  have hG : ∀ x ∈ gT, x.before args s = true := fun x h => hts x (List.mem_cons_of_mem _ h)
  unfold fMX12_format_0_126 at hf
  refine lv_iload hx hb dX12_format_126 (lv_at hl 5 rfl) ?_
  refine lv_bipush (v := (12 : Int32)) hx hb dX12_format_128 (by decide) ?_
  refine lv_iload hx hb dX12_format_130 (lv_at hl 4 rfl) ?_
  refine lv_bipush (v := (8 : Int32)) hx hb dX12_format_132 (by decide) ?_
  refine lv_idiv hx hb dX12_format_134 (by decide) ?_
  refine lv_iadd hx hb dX12_format_135 ?_
  refine lv_icmp_ge (tgt := 143) hx hb dX12_format_136 (by decide) (fun c12 => ?_) (fun c12 => ?_)
  · replace hf := (if_pos c12).symm.trans hf
    refine lv_iconst (v := (0 : Int32)) hx hb dX12_format_143 (by decide) ?_
    exact wMX12_format_0_144 F x1 x3 x4 x5 (0 : Int32) _ _ hf _ _ _ (lv_sub hl [0, 1, 2, 3, 4] rfl) hW
  · replace hf := (if_neg c12).symm.trans hf
    exact wMX12_format_0_139 F x1 x3 x4 x5 _ _ hf _ _ _ (lv_sub hl [0, 1, 2, 3, 4] rfl) hW
set_option maxHeartbeats 4000000 in
set_option maxRecDepth 100000 in
theorem wMX12_format_0_105 {p : Program} {l : Launch} {e : Env} {s : State} {m : MethodId} {args : Array Value} {below : List Frame} {meth : Method} {c : Code} {A : Nat → Prop} {K : KX} (F : fx_ p s m args meth c cX12_format 8 (some .int) RX12 wsX12_format) (x1 : Int32) (x3 : Int32) (x4 : Int32) (x5 : Int32) (y0 : Int32) (σ : XS) (o : (Int32 × XS)) (hf : fMX12_format_0_105 (kn K) x1 x3 x4 x5 y0 σ = some o) (H : Heap) (locs : List Loc) (ls : Array Slot) (hl : lv_has ls 8 [(0, .ref (ka K 0)), (1, .int x1), (3, .int x3), (4, .int x4), (5, .int x5)]) (hW : gw_ (kD K) vwCl (tyM K) (wM K) A s σ H locs) : W p l e rMX12_format_0 s m args below meth c H locs 0 0 (MQ below (gw_Qi (kD K) vwCl (tyM K) (wM K) A o) args s rMX12_format_0.cells rMX12_format_0.slots A) (F0 m 105 ls [.int y0]) := by
  have hx := F.1
  have hb := F.2.1
  have hml := F.2.2.2.1
  have hown := F.2.2.2.2.1
  have hts := F.2.2.2.2.2.1
  have hG : ∀ x ∈ gT, x.before args s = true := fun x h => hts x (List.mem_cons_of_mem _ h)
  unfold fMX12_format_0_105 at hf
  refine lv_istore (lv' := [(6, .int y0), (0, .ref (ka K 0)), (1, .int x1), (3, .int x3), (4, .int x4), (5, .int x5)]) hx hb dX12_format_105 hl (by decide) rfl (fun ls hl => ?_)
  refine lv_aload_n hx hb dX12_format_107 rfl (lv_at hl 1 rfl) ?_
  refine lv_iload_n hx hb dX12_format_108 rfl (lv_at hl 2 rfl) ?_
  refine lv_bipush (v := (12 : Int32)) hx hb dX12_format_109 (by decide) ?_
  refine lv_iload hx hb dX12_format_111 (lv_at hl 5 rfl) ?_
  refine lv_bipush (v := (8 : Int32)) hx hb dX12_format_113 (by decide) ?_
  refine lv_idiv hx hb dX12_format_115 (by decide) ?_
  refine lv_iadd hx hb dX12_format_116 ?_
  refine lv_icmp_ge (tgt := 126) hx hb dX12_format_117 (by decide) (fun c11 => ?_) (fun c11 => ?_)
  · replace hf := (if_pos c11).symm.trans hf
    exact wMX12_format_0_126 F x1 x3 x4 x5 y0 _ _ hf _ _ _ (lv_sub hl [1, 2, 3, 4, 5, 0] rfl) hW
  · replace hf := (if_neg c11).symm.trans hf
    refine lv_iload hx hb dX12_format_120 (lv_at hl 4 rfl) ?_
    refine lv_iconst (v := (1 : Int32)) hx hb dX12_format_122 (by decide) ?_
    refine lv_icmp_gt (tgt := 139) hx hb dX12_format_123 (by decide) (fun c37 => ?_) (fun c37 => ?_)
    · replace hf := (if_pos c37).symm.trans hf
      exact wMX12_format_0_139 F x1 x3 x4 x5 _ _ hf _ _ _ (lv_sub hl [1, 2, 3, 4, 5] rfl) hW
    · replace hf := (if_neg c37).symm.trans hf
      exact wMX12_format_0_126 F x1 x3 x4 x5 y0 _ _ hf _ _ _ (lv_sub hl [1, 2, 3, 4, 5, 0] rfl) hW
set_option maxHeartbeats 4000000 in
set_option maxRecDepth 100000 in
theorem wMX12_format_0_39 {p : Program} {l : Launch} {e : Env} {s : State} {m : MethodId} {args : Array Value} {below : List Frame} {meth : Method} {c : Code} {A : Nat → Prop} {K : KX} (F : fx_ p s m args meth c cX12_format 8 (some .int) RX12 wsX12_format) (x1 : Int32) (x2 : Int32) (x3 : Int32) (y0 : Int32) (σ : XS) (o : (Int32 × XS)) (hf : fMX12_format_0_39 (kn K) x1 x2 x3 y0 σ = some o) (H : Heap) (locs : List Loc) (ls : Array Slot) (hl : lv_has ls 8 [(0, .ref (ka K 0)), (1, .int x1), (2, .int x2), (3, .int x3)]) (hW : gw_ (kD K) vwCl (tyM K) (wM K) A s σ H locs) : W p l e rMX12_format_0 s m args below meth c H locs 0 0 (MQ below (gw_Qi (kD K) vwCl (tyM K) (wM K) A o) args s rMX12_format_0.cells rMX12_format_0.slots A) (F0 m 39 ls [.int y0, .ref (ka K 0)]) := by
  have hx := F.1
  have hb := F.2.1
  have hml := F.2.2.2.1
  have hown := F.2.2.2.2.1
  have hts := F.2.2.2.2.2.1
  have hG : ∀ x ∈ gT, x.before args s = true := fun x h => hts x (List.mem_cons_of_mem _ h)
  unfold fMX12_format_0_39 at hf
  refine gw_put (σ' := (stS σ 0 y0)) (ty := .int) F inc_X12 tyX12 tyX12_ok nmX12 hW 0 10 0 (aM_0 K σ) rfl (by decide) (hG _ q_6_112) (fun _ h9 => h9) rfl (by decide +kernel) rfl rfl (Nat.le_of_ble_eq_true rfl) dX12_format_39 (sSM_0 _ _ _) (fun H locs hW => ?_)
  refine lv_aload_n hx hb dX12_format_42 rfl (lv_at hl 0 rfl) ?_
  refine gw_get (v := .int y0) F inc_X12 hW 0 10 0 (aM_0 K (stS σ 0 y0)) rfl (by decide) (hG _ q_6_112) (fun _ h9 => h9) rfl dX12_format_43 ?_
  refine lv_if_le (tgt := 51) hx hb dX12_format_46 (by decide) (fun c3 => ?_) (fun c3 => ?_)
  · replace hf := (if_pos c3).symm.trans hf
    refine lv_aload_n hx hb dX12_format_51 rfl (lv_at hl 0 rfl) ?_
    refine gw_get (v := .int (Int32.ofNat (kn K))) F inc_X12 hW 0 10 1 (aM_0 K (stS σ 0 y0)) rfl (by decide) (hG _ q_6_113) (fun _ h9 => h9) rfl dX12_format_52 ?_
    refine lv_iconst (v := (1 : Int32)) hx hb dX12_format_55 (by decide) ?_
    refine lv_isub hx hb dX12_format_56 ?_
    refine lv_iload_n hx hb dX12_format_57 rfl (lv_at hl 1 rfl) ?_
    obtain ⟨o4, h5, hf⟩ := gw_bind hf
    refine gw_Si (As := [.int ((Int32.ofNat (kn K)) - (1 : Int32)), .int x1]) (mc' := 0) (ms' := 0) F hW (mMX12_parts h5) (va_cwS 2 hts (gT_S q_6_230 q_6_231 q_1_12 q_6_232) rfl rfl rfl hdX12_parts.2 ⟨Nat.le_of_ble_eq_true rfl, Nat.le_of_ble_eq_true rfl⟩) rfl hl.1 rfl (Nat.le_of_ble_eq_true rfl) dX12_format_58 ⟨Nat.le_of_ble_eq_true rfl, Nat.le_of_ble_eq_true rfl⟩ rfl rfl (fun H locs hW => ?_)
    refine lv_istore (lv' := [(4, .int o4.1), (0, .ref (ka K 0)), (1, .int x1), (2, .int x2), (3, .int x3)]) hx hb dX12_format_61 hl (by decide) rfl (fun ls hl => ?_)
    refine lv_iload_n hx hb dX12_format_63 rfl (lv_at hl 3 rfl) ?_
    refine lv_bipush (v := (8 : Int32)) hx hb dX12_format_64 (by decide) ?_
    refine lv_iload hx hb dX12_format_66 (lv_at hl 0 rfl) ?_
    refine lv_imul hx hb dX12_format_68 ?_
    obtain ⟨o7, h8, hf⟩ := gw_bind hf
    refine gw_Si (As := [.int x2, .int ((8 : Int32) * o4.1)]) (mc' := 0) (ms' := 0) F hW (mMX12_parts h8) (va_cwS 2 hts (gT_S q_6_230 q_6_231 q_1_12 q_6_232) rfl rfl rfl hdX12_parts.2 ⟨Nat.le_of_ble_eq_true rfl, Nat.le_of_ble_eq_true rfl⟩) rfl hl.1 rfl (Nat.le_of_ble_eq_true rfl) dX12_format_69 ⟨Nat.le_of_ble_eq_true rfl, Nat.le_of_ble_eq_true rfl⟩ rfl rfl (fun H locs hW => ?_)
    refine lv_bipush (v := (8 : Int32)) hx hb dX12_format_72 (by decide) ?_
    refine lv_imul hx hb dX12_format_74 ?_
    refine lv_istore (lv' := [(5, .int (o7.1 * (8 : Int32))), (4, .int o4.1), (0, .ref (ka K 0)), (1, .int x1), (2, .int x2), (3, .int x3)]) hx hb dX12_format_75 hl (by decide) rfl (fun ls hl => ?_)
    refine lv_iload hx hb dX12_format_77 (lv_at hl 1 rfl) ?_
    refine lv_iconst (v := (1 : Int32)) hx hb dX12_format_79 (by decide) ?_
    refine lv_icmp_ne (tgt := 92) hx hb dX12_format_80 (by decide) (fun c10 => ?_) (fun c10 => ?_)
    · replace hf := (if_neg c10).symm.trans hf
      refine lv_aload_n hx hb dX12_format_92 rfl (lv_at hl 2 rfl) ?_
      refine gw_get (v := .int (Int32.ofNat (kn K))) F inc_X12 hW 0 10 1 (aM_0 K o7.2) rfl (by decide) (hG _ q_6_113) (fun _ h9 => h9) rfl dX12_format_93 ?_
      refine lv_iconst (v := (1 : Int32)) hx hb dX12_format_96 (by decide) ?_
      refine lv_isub hx hb dX12_format_97 ?_
      refine lv_iload hx hb dX12_format_98 (lv_at hl 1 rfl) ?_
      refine lv_iconst (v := (1 : Int32)) hx hb dX12_format_100 (by decide) ?_
      refine lv_isub hx hb dX12_format_101 ?_
      refine lv_iload_n hx hb dX12_format_102 rfl (lv_at hl 3 rfl) ?_
      refine lv_imul hx hb dX12_format_103 ?_
      refine lv_isub hx hb dX12_format_104 ?_
      exact wMX12_format_0_105 F x1 x3 o4.1 (o7.1 * (8 : Int32)) (((Int32.ofNat (kn K)) - (1 : Int32)) - ((o4.1 - (1 : Int32)) * x1)) _ _ hf _ _ _ (lv_sub hl [2, 3, 5, 1, 0] rfl) hW
    · replace hf := (if_pos c10).symm.trans hf
      refine lv_aload_n hx hb dX12_format_83 rfl (lv_at hl 2 rfl) ?_
      refine gw_get (v := .int (Int32.ofNat (kn K))) F inc_X12 hW 0 10 1 (aM_0 K o7.2) rfl (by decide) (hG _ q_6_113) (fun _ h9 => h9) rfl dX12_format_84 ?_
      refine lv_iconst (v := (1 : Int32)) hx hb dX12_format_87 (by decide) ?_
      refine lv_isub hx hb dX12_format_88 ?_
      refine lv_goto (tgt := 105) hx hb dX12_format_89 (by decide) ?_
      exact wMX12_format_0_105 F x1 x3 o4.1 (o7.1 * (8 : Int32)) ((Int32.ofNat (kn K)) - (1 : Int32)) _ _ hf _ _ _ (lv_sub hl [2, 3, 5, 1, 0] rfl) hW
  · replace hf := (if_neg c3).symm.trans hf
    refine lv_iconst (v := (0 : Int32)) hx hb dX12_format_49 (by decide) ?_
    exact gw_reti F hW hf dX12_format_50
set_option maxHeartbeats 4000000 in
set_option maxRecDepth 100000 in
theorem wMX12_format_0_34 {p : Program} {l : Launch} {e : Env} {s : State} {m : MethodId} {args : Array Value} {below : List Frame} {meth : Method} {c : Code} {A : Nat → Prop} {K : KX} (F : fx_ p s m args meth c cX12_format 8 (some .int) RX12 wsX12_format) (x1 : Int32) (x2 : Int32) (x3 : Int32) (σ : XS) (o : (Int32 × XS)) (hf : fMX12_format_0_34 (kn K) x1 x2 x3 σ = some o) (H : Heap) (locs : List Loc) (ls : Array Slot) (hl : lv_has ls 8 [(0, .ref (ka K 0)), (1, .int x1), (2, .int x2), (3, .int x3)]) (hW : gw_ (kD K) vwCl (tyM K) (wM K) A s σ H locs) : W p l e rMX12_format_0 s m args below meth c H locs 0 0 (MQ below (gw_Qi (kD K) vwCl (tyM K) (wM K) A o) args s rMX12_format_0.cells rMX12_format_0.slots A) (F0 m 34 ls [.ref (ka K 0)]) := by
  have hx := F.1
  have hb := F.2.1
  have hml := F.2.2.2.1
  have hown := F.2.2.2.2.1
  have hts := F.2.2.2.2.2.1
  have hG : ∀ x ∈ gT, x.before args s = true := fun x h => hts x (List.mem_cons_of_mem _ h)
  unfold fMX12_format_0_34 at hf
  refine lv_iconst (v := (1 : Int32)) hx hb dX12_format_34 (by decide) ?_
  refine lv_goto (tgt := 39) hx hb dX12_format_35 (by decide) ?_
  exact wMX12_format_0_39 F x1 x2 x3 (1 : Int32) _ _ hf _ _ _ (lv_sub hl [0, 1, 2, 3] rfl) hW
set_option maxHeartbeats 4000000 in
set_option maxRecDepth 100000 in
theorem wMX12_format_0_21 {p : Program} {l : Launch} {e : Env} {s : State} {m : MethodId} {args : Array Value} {below : List Frame} {meth : Method} {c : Code} {A : Nat → Prop} {K : KX} (F : fx_ p s m args meth c cX12_format 8 (some .int) RX12 wsX12_format) (x1 : Int32) (x2 : Int32) (x3 : Int32) (σ : XS) (o : (Int32 × XS)) (hf : fMX12_format_0_21 (kn K) x1 x2 x3 σ = some o) (H : Heap) (locs : List Loc) (ls : Array Slot) (hl : lv_has ls 8 [(0, .ref (ka K 0)), (1, .int x1), (2, .int x2), (3, .int x3)]) (hW : gw_ (kD K) vwCl (tyM K) (wM K) A s σ H locs) : W p l e rMX12_format_0 s m args below meth c H locs 0 0 (MQ below (gw_Qi (kD K) vwCl (tyM K) (wM K) A o) args s rMX12_format_0.cells rMX12_format_0.slots A) (F0 m 21 ls [.ref (ka K 0)]) := by
  have hx := F.1
  have hb := F.2.1
  have hml := F.2.2.2.1
  have hown := F.2.2.2.2.1
  have hts := F.2.2.2.2.2.1
  have hG : ∀ x ∈ gT, x.before args s = true := fun x h => hts x (List.mem_cons_of_mem _ h)
  unfold fMX12_format_0_21 at hf
  refine lv_iload_n hx hb dX12_format_21 rfl (lv_at hl 2 rfl) ?_
  refine lv_bipush (v := (12 : Int32)) hx hb dX12_format_22 (by decide) ?_
  refine lv_icmp_lt (tgt := 34) hx hb dX12_format_24 (by decide) (fun c2 => ?_) (fun c2 => ?_)
  · replace hf := (if_pos c2).symm.trans hf
    exact wMX12_format_0_34 F x1 x2 x3 _ _ hf _ _ _ (lv_sub hl [0, 1, 2, 3] rfl) hW
  · replace hf := (if_neg c2).symm.trans hf
    refine lv_iload_n hx hb dX12_format_27 rfl (lv_at hl 2 rfl) ?_
    refine lv_sipush (v := (2000 : Int32)) hx hb dX12_format_28 (by decide) ?_
    refine lv_icmp_le (tgt := 38) hx hb dX12_format_31 (by decide) (fun c38 => ?_) (fun c38 => ?_)
    · replace hf := (if_pos c38).symm.trans hf
      refine lv_iconst (v := (0 : Int32)) hx hb dX12_format_38 (by decide) ?_
      exact wMX12_format_0_39 F x1 x2 x3 (0 : Int32) _ _ hf _ _ _ (lv_sub hl [0, 1, 2, 3] rfl) hW
    · replace hf := (if_neg c38).symm.trans hf
      exact wMX12_format_0_34 F x1 x2 x3 _ _ hf _ _ _ (lv_sub hl [0, 1, 2, 3] rfl) hW
set_option maxHeartbeats 4000000 in
set_option maxRecDepth 100000 in
theorem wMX12_format_0_0 {p : Program} {l : Launch} {e : Env} {s : State} {m : MethodId} {args : Array Value} {below : List Frame} {meth : Method} {c : Code} {A : Nat → Prop} {K : KX} (F : fx_ p s m args meth c cX12_format 8 (some .int) RX12 wsX12_format) (x1 : Int32) (x2 : Int32) (x3 : Int32) (σ : XS) (o : (Int32 × XS)) (hf : fMX12_format_0_0 (kn K) x1 x2 x3 σ = some o) (H : Heap) (locs : List Loc) (ls : Array Slot) (hl : lv_has ls 8 [(0, .ref (ka K 0)), (1, .int x1), (2, .int x2), (3, .int x3)]) (hW : gw_ (kD K) vwCl (tyM K) (wM K) A s σ H locs) : W p l e rMX12_format_0 s m args below meth c H locs 0 0 (MQ below (gw_Qi (kD K) vwCl (tyM K) (wM K) A o) args s rMX12_format_0.cells rMX12_format_0.slots A) (F0 m 0 ls []) := by
  have hx := F.1
  have hb := F.2.1
  have hml := F.2.2.2.1
  have hown := F.2.2.2.2.1
  have hts := F.2.2.2.2.2.1
  have hG : ∀ x ∈ gT, x.before args s = true := fun x h => hts x (List.mem_cons_of_mem _ h)
  unfold fMX12_format_0_0 at hf
  refine lv_aload_n hx hb dX12_format_0 rfl (lv_at hl 0 rfl) ?_
  refine lv_iload_n hx hb dX12_format_1 rfl (lv_at hl 1 rfl) ?_
  refine lv_bipush (v := (64 : Int32)) hx hb dX12_format_2 (by decide) ?_
  refine lv_icmp_eq (tgt := 21) hx hb dX12_format_4 (by decide) (fun c1 => ?_) (fun c1 => ?_)
  · replace hf := (if_pos c1).symm.trans hf
    exact wMX12_format_0_21 F x1 x2 x3 _ _ hf _ _ _ (lv_sub hl [0, 1, 2, 3] rfl) hW
  · replace hf := (if_neg c1).symm.trans hf
    refine lv_iload_n hx hb dX12_format_7 rfl (lv_at hl 1 rfl) ?_
    refine lv_sipush (v := (128 : Int32)) hx hb dX12_format_8 (by decide) ?_
    refine lv_icmp_eq (tgt := 21) hx hb dX12_format_11 (by decide) (fun c39 => ?_) (fun c39 => ?_)
    · replace hf := (if_pos c39).symm.trans hf
      exact wMX12_format_0_21 F x1 x2 x3 _ _ hf _ _ _ (lv_sub hl [0, 1, 2, 3] rfl) hW
    · replace hf := (if_neg c39).symm.trans hf
      refine lv_iload_n hx hb dX12_format_14 rfl (lv_at hl 1 rfl) ?_
      refine lv_sipush (v := (256 : Int32)) hx hb dX12_format_15 (by decide) ?_
      refine lv_icmp_ne (tgt := 34) hx hb dX12_format_18 (by decide) (fun c40 => ?_) (fun c40 => ?_)
      · replace hf := (if_neg c40).symm.trans hf
        exact wMX12_format_0_34 F x1 x2 x3 _ _ hf _ _ _ (lv_sub hl [0, 1, 2, 3] rfl) hW
      · replace hf := (if_pos c40).symm.trans hf
        exact wMX12_format_0_21 F x1 x2 x3 _ _ hf _ _ _ (lv_sub hl [0, 1, 2, 3] rfl) hW
set_option maxHeartbeats 4000000 in
set_option maxRecDepth 100000 in
theorem mMX12_format_0 {l : Launch} {K : KX} {σ : XS} {x1 : Int32} {x2 : Int32} {x3 : Int32} {o : (Int32 × XS)} (hf : fMX12_format_0 (kn K) x1 x2 x3 σ = some o) : gw_Mi l (kD K) vwCl (tyM K) (wM K) yX12_format wsX12_format rMX12_format_0 [.ref (ka K 0), .int x1, .int x2, .int x3] σ o := by
  intro sz
  refine gw_body (cc := cX12_format) (maxL := 8) (yret := some .int) (by decide +kernel) rfl ?_ (Nat.le_of_ble_eq_true rfl)
  intro p e s m below meth c F hsz hW ls hl
  exact wMX12_format_0_0 F x1 x2 x3 σ o hf s.heap [] ls hl hW
abbrev rMX12_put_0 : Room := { frames := 0, cells := 0, slots := 0, locals := 0 }
def PMX12_put_0_3 (p : Program) (l : Launch) (e : Env) (s : State) (m : MethodId) (args : Array Value) (below : List Frame) (meth : Method) (c : Code) (A : Nat → Prop) (K : KX) (t : (Int32 × Int32 × Int64 × Int32 × XS)) (o : XS) : Prop := ∀ (H : Heap) (locs : List Loc) (ls : Array Slot), lv_has ls 6 [(0, .ref (ka K 0)), (1, .int t.1), (2, .int t.2.1), (3, .long t.2.2.1), (5, .int t.2.2.2.1)] → gw_ (kD K) vwCl (tyM K) (wM K) A s t.2.2.2.2 H locs → W p l e rMX12_put_0 s m args below meth c H locs 0 0 (MQ below (gw_Qv (kD K) vwCl (tyM K) (wM K) A o) args s rMX12_put_0.cells rMX12_put_0.slots A) (F0 m 3 ls [])
set_option maxHeartbeats 4000000 in
set_option maxRecDepth 100000 in
theorem wMX12_put_0_3 {p : Program} {l : Launch} {e : Env} {s : State} {m : MethodId} {args : Array Value} {below : List Frame} {meth : Method} {c : Code} {A : Nat → Prop} {K : KX} (F : fx_ p s m args meth c cX12_put 6 none RX12 wsX12_put) {k3 : (Int32 × Int32 × Int64 × Int32 × XS) → Option XS} (hk3 : ∀ t o, k3 t = some o → PMX12_put_0_3 p l e s m args below meth c A K t o) (x1 : Int32) (x2 : Int32) (x3 : Int64) (x5 : Int32) (σ : XS) (o : XS) (hf : fMX12_put_0_3 (kn K) k3 x1 x2 x3 x5 σ = some o) (H : Heap) (locs : List Loc) (ls : Array Slot) (hl : lv_has ls 6 [(0, .ref (ka K 0)), (1, .int x1), (2, .int x2), (3, .long x3), (5, .int x5)]) (hW : gw_ (kD K) vwCl (tyM K) (wM K) A s σ H locs) : W p l e rMX12_put_0 s m args below meth c H locs 0 0 (MQ below (gw_Qv (kD K) vwCl (tyM K) (wM K) A o) args s rMX12_put_0.cells rMX12_put_0.slots A) (F0 m 3 ls []) := by
  have hx := F.1
  have hb := F.2.1
  have hml := F.2.2.2.1
  have hown := F.2.2.2.2.1
  have hts := F.2.2.2.2.2.1
  have hG : ∀ x ∈ gT, x.before args s = true := fun x h => hts x (List.mem_cons_of_mem _ h)
  unfold fMX12_put_0_3 at hf
  refine lv_iload hx hb dX12_put_3 (lv_at hl 4 rfl) ?_
  refine lv_iload_n hx hb dX12_put_5 rfl (lv_at hl 2 rfl) ?_
  refine lv_icmp_ge (tgt := 33) hx hb dX12_put_6 (by decide) (fun c1 => ?_) (fun c1 => ?_)
  · replace hf := (if_pos c1).symm.trans hf
    exact gw_retv F hW hf dX12_put_33
  · replace hf := (if_neg c1).symm.trans hf
    refine lv_aload_n hx hb dX12_put_9 rfl (lv_at hl 0 rfl) ?_
    refine gw_get (v := .ref (ka K 2)) F inc_X12 hW 0 10 3 (aM_0 K σ) rfl (by decide) (hG _ q_6_115) (fun _ h9 => h9) rfl dX12_put_10 ?_
    refine lv_iload_n hx hb dX12_put_13 rfl (lv_at hl 1 rfl) ?_
    refine lv_iload hx hb dX12_put_14 (lv_at hl 4 rfl) ?_
    refine lv_iadd hx hb dX12_put_16 ?_
    refine lv_lload_n hx hb dX12_put_17 rfl (lv_at hl 3 rfl) ?_
    refine lv_bipush (v := (8 : Int32)) hx hb dX12_put_18 (by decide) ?_
    refine lv_iload hx hb dX12_put_20 (lv_at hl 4 rfl) ?_
    refine lv_imul hx hb dX12_put_22 ?_
    refine lv_lshr (v := (x3 >>> (((8 : Int32) * x5).toInt64 &&& 63))) hx hb dX12_put_23 rfl ?_
    refine lv_l2i (v := (x3 >>> (((8 : Int32) * x5).toInt64 &&& 63)).toInt32) hx hb dX12_put_24 rfl ?_
    refine lv_i2b (v := ((x3 >>> (((8 : Int32) * x5).toInt64 &&& 63)).toInt32).toInt8.toInt32) hx hb dX12_put_25 rfl ?_
    rcases Decidable.em ((x1 + x5) < 0 ∨ 524288 ≤ (x1 + x5).toNatClampNeg) with c2 | c2
    · replace hf := (if_pos c2).symm.trans hf
      exact absurd hf (by simp)
    · replace hf := (if_neg c2).symm.trans hf
      refine gw_bast (σ' := (stA σ 1 (x1 + x5).toNatClampNeg (vp_nar .byte (((x3 >>> (((8 : Int32) * x5).toInt64 &&& 63)).toInt32).toInt8.toInt32)))) F hW 2 1 (aM_2 K σ) rfl c2 dX12_put_26 (sAM_1 _ _ _) (fun H locs hW => ?_)
      refine lv_iinc (v := (x5 + (1 : Int32))) (lv' := [(5, .int (x5 + (1 : Int32))), (0, .ref (ka K 0)), (1, .int x1), (2, .int x2), (3, .long x3)]) hx hb dX12_put_27 hl (k := 4) rfl rfl (by decide) rfl (fun ls hl => ?_)
      refine lv_goto (tgt := 3) hx hb dX12_put_30 (by decide) ?_
      exact hk3 _ _ hf _ _ _ (lv_sub hl [1, 2, 3, 4, 0] rfl) hW
set_option maxHeartbeats 4000000 in
set_option maxRecDepth 100000 in
theorem wMX12_put_0_0 {p : Program} {l : Launch} {e : Env} {s : State} {m : MethodId} {args : Array Value} {below : List Frame} {meth : Method} {c : Code} {A : Nat → Prop} {K : KX} (F : fx_ p s m args meth c cX12_put 6 none RX12 wsX12_put) (x1 : Int32) (x2 : Int32) (x3 : Int64) (σ : XS) (o : XS) (hf : fMX12_put_0_0 (kn K) x1 x2 x3 σ = some o) (H : Heap) (locs : List Loc) (ls : Array Slot) (hl : lv_has ls 6 [(0, .ref (ka K 0)), (1, .int x1), (2, .int x2), (3, .long x3)]) (hW : gw_ (kD K) vwCl (tyM K) (wM K) A s σ H locs) : W p l e rMX12_put_0 s m args below meth c H locs 0 0 (MQ below (gw_Qv (kD K) vwCl (tyM K) (wM K) A o) args s rMX12_put_0.cells rMX12_put_0.slots A) (F0 m 0 ls []) := by
  have hx := F.1
  have hb := F.2.1
  have hml := F.2.2.2.1
  have hown := F.2.2.2.2.1
  have hts := F.2.2.2.2.2.1
  have hG : ∀ x ∈ gT, x.before args s = true := fun x h => hts x (List.mem_cons_of_mem _ h)
  unfold fMX12_put_0_0 at hf
  refine lv_iconst (v := (0 : Int32)) hx hb dX12_put_0 (by decide) ?_
  refine lv_istore (lv' := [(5, .int (0 : Int32)), (0, .ref (ka K 0)), (1, .int x1), (2, .int x2), (3, .long x3)]) hx hb dX12_put_1 hl (by decide) rfl (fun ls hl => ?_)
  exact lfix_ind (P := PMX12_put_0_3 p l e s m args below meth c A K) (fun k3 hk3 t o hf => wMX12_put_0_3 F hk3 t.1 t.2.1 t.2.2.1 t.2.2.2.1 t.2.2.2.2 o hf) FU _ _ hf _ _ _ (lv_sub hl [1, 2, 3, 4, 0] rfl) hW
set_option maxHeartbeats 4000000 in
set_option maxRecDepth 100000 in
theorem mMX12_put_0 {l : Launch} {K : KX} {σ : XS} {x1 : Int32} {x2 : Int32} {x3 : Int64} {o : XS} (hf : fMX12_put_0 (kn K) x1 x2 x3 σ = some o) : gw_Mv l (kD K) vwCl (tyM K) (wM K) yX12_put wsX12_put rMX12_put_0 [.ref (ka K 0), .int x1, .int x2, .long x3] σ o := by
  intro sz
  refine gw_body (cc := cX12_put) (maxL := 6) (yret := none) (by decide +kernel) rfl ?_ (Nat.le_of_ble_eq_true rfl)
  intro p e s m below meth c F hsz hW ls hl
  exact wMX12_put_0_0 F x1 x2 x3 σ o hf s.heap [] ls hl hW
