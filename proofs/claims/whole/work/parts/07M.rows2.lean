abbrev rMX12_isTaken_0 : Room := { frames := 4, cells := 0, slots := 0, locals := 89 }
def PMX12_isTaken_0_46 (p : Program) (l : Launch) (e : Env) (s : State) (m : MethodId) (args : Array Value) (below : List Frame) (meth : Method) (c : Code) (A : Nat → Prop) (K : KX) (t : (Int32 × Int32 × Int32 × XS)) (o : (Int32 × XS)) : Prop := ∀ (H : Heap) (locs : List Loc) (ls : Array Slot), lv_has ls 4 [(0, .ref (ka K 0)), (1, .int t.1), (2, .int t.2.1), (3, .int t.2.2.1)] → gw_ (kD K) vwCl (tyM K) (wM K) A s t.2.2.2 H locs → W p l e rMX12_isTaken_0 s m args below meth c H locs 0 0 (MQ below (va_Qi (fun r u => (r = o.1 ∧ u = o.2) ∧ (o.1 = 0 ∨ o.1 = 1)) (gw_B (kD K) vwCl (tyM K) (wM K) A) A) args s rMX12_isTaken_0.cells rMX12_isTaken_0.slots A) (F0 m 46 ls [])
def PMX12_isTaken_0_4 (p : Program) (l : Launch) (e : Env) (s : State) (m : MethodId) (args : Array Value) (below : List Frame) (meth : Method) (c : Code) (A : Nat → Prop) (K : KX) (t : (Int32 × Int32 × XS)) (o : (Int32 × XS)) : Prop := ∀ (H : Heap) (locs : List Loc) (ls : Array Slot), lv_has ls 4 [(0, .ref (ka K 0)), (1, .int t.1), (2, .int t.2.1)] → gw_ (kD K) vwCl (tyM K) (wM K) A s t.2.2 H locs → W p l e rMX12_isTaken_0 s m args below meth c H locs 0 0 (MQ below (va_Qi (fun r u => (r = o.1 ∧ u = o.2) ∧ (o.1 = 0 ∨ o.1 = 1)) (gw_B (kD K) vwCl (tyM K) (wM K) A) A) args s rMX12_isTaken_0.cells rMX12_isTaken_0.slots A) (F0 m 4 ls [])
set_option maxHeartbeats 4000000 in
set_option maxRecDepth 100000 in
theorem wMX12_isTaken_0_92 {p : Program} {l : Launch} {e : Env} {s : State} {m : MethodId} {args : Array Value} {below : List Frame} {meth : Method} {c : Code} {A : Nat → Prop} {K : KX} (F : fx_ p s m args meth c cX12_isTaken 4 (some .boolean) RX12 wsX12_isTaken) {k4 : (Int32 × Int32 × XS) → Option (Int32 × XS)} (hk4 : ∀ t o, k4 t = some o → PMX12_isTaken_0_4 p l e s m args below meth c A K t o) (x1 : Int32) (x2 : Int32) (σ : XS) (o : (Int32 × XS)) (hf : fMX12_isTaken_0_92 (kn K) k4 x1 x2 σ = some o) (H : Heap) (locs : List Loc) (ls : Array Slot) (hl : lv_has ls 4 [(0, .ref (ka K 0)), (1, .int x1), (2, .int x2)]) (hW : gw_ (kD K) vwCl (tyM K) (wM K) A s σ H locs) : W p l e rMX12_isTaken_0 s m args below meth c H locs 0 0 (MQ below (va_Qi (fun r u => (r = o.1 ∧ u = o.2) ∧ (o.1 = 0 ∨ o.1 = 1)) (gw_B (kD K) vwCl (tyM K) (wM K) A) A) args s rMX12_isTaken_0.cells rMX12_isTaken_0.slots A) (F0 m 92 ls []) := by
  have hx := F.1
  have hb := F.2.1
  have hml := F.2.2.2.1
  have hown := F.2.2.2.2.1
  have hts := F.2.2.2.2.2.1
  have hG : ∀ x ∈ gT, x.before args s = true := fun x h => hts x (List.mem_cons_of_mem _ h)
  unfold fMX12_isTaken_0_92 at hf
  refine lv_iinc (v := (x2 + (1 : Int32))) (lv' := [(2, .int (x2 + (1 : Int32))), (0, .ref (ka K 0)), (1, .int x1)]) hx hb dX12_isTaken_92 hl (k := 2) rfl rfl (by decide) rfl (fun ls hl => ?_)
  refine lv_goto (tgt := 4) hx hb dX12_isTaken_95 (by decide) ?_
  exact hk4 _ _ hf _ _ _ (lv_sub hl [1, 2, 0] rfl) hW
set_option maxHeartbeats 4000000 in
set_option maxRecDepth 100000 in
theorem wMX12_isTaken_0_85 {p : Program} {l : Launch} {e : Env} {s : State} {m : MethodId} {args : Array Value} {below : List Frame} {meth : Method} {c : Code} {A : Nat → Prop} {K : KX} (F : fx_ p s m args meth c cX12_isTaken 4 (some .boolean) RX12 wsX12_isTaken) {k4 : (Int32 × Int32 × XS) → Option (Int32 × XS)} (hk4 : ∀ t o, k4 t = some o → PMX12_isTaken_0_4 p l e s m args below meth c A K t o) {k46 : (Int32 × Int32 × Int32 × XS) → Option (Int32 × XS)} (hk46 : ∀ t o, k46 t = some o → PMX12_isTaken_0_46 p l e s m args below meth c A K t o) (x2 : Int32) (x3 : Int32) (y0 : Int32) (σ : XS) (o : (Int32 × XS)) (hf : fMX12_isTaken_0_85 (kn K) k4 k46 x2 x3 y0 σ = some o) (H : Heap) (locs : List Loc) (ls : Array Slot) (hl : lv_has ls 4 [(0, .ref (ka K 0)), (2, .int x2), (3, .int x3)]) (hW : gw_ (kD K) vwCl (tyM K) (wM K) A s σ H locs) : W p l e rMX12_isTaken_0 s m args below meth c H locs 0 0 (MQ below (va_Qi (fun r u => (r = o.1 ∧ u = o.2) ∧ (o.1 = 0 ∨ o.1 = 1)) (gw_B (kD K) vwCl (tyM K) (wM K) A) A) args s rMX12_isTaken_0.cells rMX12_isTaken_0.slots A) (F0 m 85 ls [.int y0]) := by
  have hx := F.1
  have hb := F.2.1
  have hml := F.2.2.2.1
  have hown := F.2.2.2.2.1
  have hts := F.2.2.2.2.2.1
  have hG : ∀ x ∈ gT, x.before args s = true := fun x h => hts x (List.mem_cons_of_mem _ h)
  unfold fMX12_isTaken_0_85 at hf
  refine lv_istore_n (lv' := [(1, .int y0), (0, .ref (ka K 0)), (2, .int x2), (3, .int x3)]) hx hb dX12_isTaken_85 rfl hl (by decide) rfl (fun ls hl => ?_)
  refine lv_iinc (v := (x3 + (1 : Int32))) (lv' := [(3, .int (x3 + (1 : Int32))), (1, .int y0), (0, .ref (ka K 0)), (2, .int x2)]) hx hb dX12_isTaken_86 hl (k := 3) rfl rfl (by decide) rfl (fun ls hl => ?_)
  refine lv_goto (tgt := 46) hx hb dX12_isTaken_89 (by decide) ?_
  exact hk46 _ _ hf _ _ _ (lv_sub hl [2, 1, 3, 0] rfl) hW
set_option maxHeartbeats 4000000 in
set_option maxRecDepth 100000 in
theorem wMX12_isTaken_0_46 {p : Program} {l : Launch} {e : Env} {s : State} {m : MethodId} {args : Array Value} {below : List Frame} {meth : Method} {c : Code} {A : Nat → Prop} {K : KX} (F : fx_ p s m args meth c cX12_isTaken 4 (some .boolean) RX12 wsX12_isTaken) {k4 : (Int32 × Int32 × XS) → Option (Int32 × XS)} (hk4 : ∀ t o, k4 t = some o → PMX12_isTaken_0_4 p l e s m args below meth c A K t o) {k46 : (Int32 × Int32 × Int32 × XS) → Option (Int32 × XS)} (hk46 : ∀ t o, k46 t = some o → PMX12_isTaken_0_46 p l e s m args below meth c A K t o) (x1 : Int32) (x2 : Int32) (x3 : Int32) (σ : XS) (o : (Int32 × XS)) (hf : fMX12_isTaken_0_46 (kn K) k4 k46 x1 x2 x3 σ = some o) (H : Heap) (locs : List Loc) (ls : Array Slot) (hl : lv_has ls 4 [(0, .ref (ka K 0)), (1, .int x1), (2, .int x2), (3, .int x3)]) (hW : gw_ (kD K) vwCl (tyM K) (wM K) A s σ H locs) : W p l e rMX12_isTaken_0 s m args below meth c H locs 0 0 (MQ below (va_Qi (fun r u => (r = o.1 ∧ u = o.2) ∧ (o.1 = 0 ∨ o.1 = 1)) (gw_B (kD K) vwCl (tyM K) (wM K) A) A) args s rMX12_isTaken_0.cells rMX12_isTaken_0.slots A) (F0 m 46 ls []) := by
  have hx := F.1
  have hb := F.2.1
  have hml := F.2.2.2.1
  have hown := F.2.2.2.2.1
  have hts := F.2.2.2.2.2.1
  have hG : ∀ x ∈ gT, x.before args s = true := fun x h => hts x (List.mem_cons_of_mem _ h)
  unfold fMX12_isTaken_0_46 at hf
  refine lv_iload_n hx hb dX12_isTaken_46 rfl (lv_at hl 3 rfl) ?_
  refine lv_aload_n hx hb dX12_isTaken_47 rfl (lv_at hl 0 rfl) ?_
  refine gw_get (v := .int (σ.1 12)) F inc_X12 hW 0 10 31 (aM_0 K σ) rfl (by decide) (hG _ q_6_143) (fun _ h9 => h9) rfl dX12_isTaken_48 ?_
  refine lv_icmp_ge (tgt := 92) hx hb dX12_isTaken_51 (by decide) (fun c12 => ?_) (fun c12 => ?_)
  · replace hf := (if_pos c12).symm.trans hf
    exact wMX12_isTaken_0_92 F hk4 x1 x2 _ _ hf _ _ _ (lv_sub hl [0, 1, 2] rfl) hW
  · replace hf := (if_neg c12).symm.trans hf
    refine lv_iload_n hx hb dX12_isTaken_54 rfl (lv_at hl 1 rfl) ?_
    refine lv_if_eq (tgt := 92) hx hb dX12_isTaken_55 (by decide) (fun c13 => ?_) (fun c13 => ?_)
    · replace hf := (if_pos c13).symm.trans hf
      exact wMX12_isTaken_0_92 F hk4 x1 x2 _ _ hf _ _ _ (lv_sub hl [0, 1, 2] rfl) hW
    · replace hf := (if_neg c13).symm.trans hf
      refine lv_aload_n hx hb dX12_isTaken_58 rfl (lv_at hl 0 rfl) ?_
      refine lv_aload_n hx hb dX12_isTaken_59 rfl (lv_at hl 0 rfl) ?_
      refine gw_get (v := .int (σ.1 10)) F inc_X12 hW 0 10 28 (aM_0 K σ) rfl (by decide) (hG _ q_6_140) (fun _ h9 => h9) rfl dX12_isTaken_60 ?_
      refine lv_bipush (v := (8 : Int32)) hx hb dX12_isTaken_63 (by decide) ?_
      refine lv_iadd hx hb dX12_isTaken_65 ?_
      refine lv_iload_n hx hb dX12_isTaken_66 rfl (lv_at hl 3 rfl) ?_
      refine lv_iadd hx hb dX12_isTaken_67 ?_
      obtain ⟨o14, h15, hf⟩ := gw_bind hf
      refine gw_Vi (As := [.int (((σ.1 10) + (8 : Int32)) + x3)]) (mc' := 0) (ms' := 0) F hW (mMX12_one_0 h15) (cwV 1 hts (gT_V q_7_107 q_7_109 qp_57 q_1_12 q_7_110) rfl rfl rfl hdX12_one ⟨Nat.le_of_ble_eq_true rfl, Nat.le_of_ble_eq_true rfl⟩) 0 10 (aM_0 K σ) rfl rfl hl.1 rfl (Nat.le_of_ble_eq_true rfl) dX12_isTaken_68 ⟨Nat.le_of_ble_eq_true rfl, Nat.le_of_ble_eq_true rfl⟩ rfl rfl (fun H locs hW => ?_)
      refine lv_aload_n hx hb dX12_isTaken_71 rfl (lv_at hl 0 rfl) ?_
      refine gw_get (v := .ref (ka K 18)) F inc_X12 hW 0 10 30 (aM_0 K o14.2) rfl (by decide) (hG _ q_6_142) (fun _ h9 => h9) rfl dX12_isTaken_72 ?_
      refine lv_iload_n hx hb dX12_isTaken_75 rfl (lv_at hl 3 rfl) ?_
      rcases Decidable.em (x3 < 0 ∨ 255 ≤ x3.toNatClampNeg) with c17 | c17
      · replace hf := (if_pos c17).symm.trans hf
        exact absurd hf (by simp)
      · replace hf := (if_neg c17).symm.trans hf
        refine gw_iald F hW 18 17 (aM_18 K o14.2) rfl c17 dX12_isTaken_76 ?_
        refine lv_icmp_ne (tgt := 84) hx hb dX12_isTaken_77 (by decide) (fun c18 => ?_) (fun c18 => ?_)
        · replace hf := (if_neg c18).symm.trans hf
          refine lv_iconst (v := (0 : Int32)) hx hb dX12_isTaken_84 (by decide) ?_
          exact wMX12_isTaken_0_85 F hk4 hk46 x2 x3 (0 : Int32) _ _ hf _ _ _ (lv_sub hl [0, 2, 3] rfl) hW
        · replace hf := (if_pos c18).symm.trans hf
          refine lv_iconst (v := (1 : Int32)) hx hb dX12_isTaken_80 (by decide) ?_
          refine lv_goto (tgt := 85) hx hb dX12_isTaken_81 (by decide) ?_
          exact wMX12_isTaken_0_85 F hk4 hk46 x2 x3 (1 : Int32) _ _ hf _ _ _ (lv_sub hl [0, 2, 3] rfl) hW
set_option maxHeartbeats 4000000 in
set_option maxRecDepth 100000 in
theorem wMX12_isTaken_0_43 {p : Program} {l : Launch} {e : Env} {s : State} {m : MethodId} {args : Array Value} {below : List Frame} {meth : Method} {c : Code} {A : Nat → Prop} {K : KX} (F : fx_ p s m args meth c cX12_isTaken 4 (some .boolean) RX12 wsX12_isTaken) {k4 : (Int32 × Int32 × XS) → Option (Int32 × XS)} (hk4 : ∀ t o, k4 t = some o → PMX12_isTaken_0_4 p l e s m args below meth c A K t o) (x2 : Int32) (y0 : Int32) (σ : XS) (o : (Int32 × XS)) (hf : fMX12_isTaken_0_43 (kn K) k4 x2 y0 σ = some o) (H : Heap) (locs : List Loc) (ls : Array Slot) (hl : lv_has ls 4 [(0, .ref (ka K 0)), (2, .int x2)]) (hW : gw_ (kD K) vwCl (tyM K) (wM K) A s σ H locs) : W p l e rMX12_isTaken_0 s m args below meth c H locs 0 0 (MQ below (va_Qi (fun r u => (r = o.1 ∧ u = o.2) ∧ (o.1 = 0 ∨ o.1 = 1)) (gw_B (kD K) vwCl (tyM K) (wM K) A) A) args s rMX12_isTaken_0.cells rMX12_isTaken_0.slots A) (F0 m 43 ls [.int y0]) := by
  have hx := F.1
  have hb := F.2.1
  have hml := F.2.2.2.1
  have hown := F.2.2.2.2.1
  have hts := F.2.2.2.2.2.1
  have hG : ∀ x ∈ gT, x.before args s = true := fun x h => hts x (List.mem_cons_of_mem _ h)
  unfold fMX12_isTaken_0_43 at hf
  refine lv_istore_n (lv' := [(1, .int y0), (0, .ref (ka K 0)), (2, .int x2)]) hx hb dX12_isTaken_43 rfl hl (by decide) rfl (fun ls hl => ?_)
  refine lv_iconst (v := (0 : Int32)) hx hb dX12_isTaken_44 (by decide) ?_
  refine lv_istore_n (lv' := [(3, .int (0 : Int32)), (1, .int y0), (0, .ref (ka K 0)), (2, .int x2)]) hx hb dX12_isTaken_45 rfl hl (by decide) rfl (fun ls hl => ?_)
  exact lfix_ind (P := PMX12_isTaken_0_46 p l e s m args below meth c A K) (fun k46 hk46 t o hf => wMX12_isTaken_0_46 F hk4 hk46 t.1 t.2.1 t.2.2.1 t.2.2.2 o hf) FU _ _ hf _ _ _ (lv_sub hl [2, 1, 3, 0] rfl) hW
set_option maxHeartbeats 4000000 in
set_option maxRecDepth 100000 in
theorem wMX12_isTaken_0_4 {p : Program} {l : Launch} {e : Env} {s : State} {m : MethodId} {args : Array Value} {below : List Frame} {meth : Method} {c : Code} {A : Nat → Prop} {K : KX} (F : fx_ p s m args meth c cX12_isTaken 4 (some .boolean) RX12 wsX12_isTaken) {k4 : (Int32 × Int32 × XS) → Option (Int32 × XS)} (hk4 : ∀ t o, k4 t = some o → PMX12_isTaken_0_4 p l e s m args below meth c A K t o) (x1 : Int32) (x2 : Int32) (σ : XS) (o : (Int32 × XS)) (hf : fMX12_isTaken_0_4 (kn K) k4 x1 x2 σ = some o) (H : Heap) (locs : List Loc) (ls : Array Slot) (hl : lv_has ls 4 [(0, .ref (ka K 0)), (1, .int x1), (2, .int x2)]) (hW : gw_ (kD K) vwCl (tyM K) (wM K) A s σ H locs) : W p l e rMX12_isTaken_0 s m args below meth c H locs 0 0 (MQ below (va_Qi (fun r u => (r = o.1 ∧ u = o.2) ∧ (o.1 = 0 ∨ o.1 = 1)) (gw_B (kD K) vwCl (tyM K) (wM K) A) A) args s rMX12_isTaken_0.cells rMX12_isTaken_0.slots A) (F0 m 4 ls []) := by
  have hx := F.1
  have hb := F.2.1
  have hml := F.2.2.2.1
  have hown := F.2.2.2.2.1
  have hts := F.2.2.2.2.2.1
  have hG : ∀ x ∈ gT, x.before args s = true := fun x h => hts x (List.mem_cons_of_mem _ h)
  unfold fMX12_isTaken_0_4 at hf
  refine lv_iload_n hx hb dX12_isTaken_4 rfl (lv_at hl 1 rfl) ?_
  refine lv_if_ne (tgt := 98) hx hb dX12_isTaken_5 (by decide) (fun c1 => ?_) (fun c1 => ?_)
  · replace hf := (if_neg c1).symm.trans hf
    refine lv_iload_n hx hb dX12_isTaken_98 rfl (lv_at hl 1 rfl) ?_
    rcases Decidable.em (x1 = 0 ∨ x1 = 1) with c2 | c2
    · replace hf := (if_pos c2).symm.trans hf
      exact gw_retz F hW hf c2 dX12_isTaken_99
    · replace hf := (if_neg c2).symm.trans hf
      exact absurd hf (by simp)
  · replace hf := (if_pos c1).symm.trans hf
    refine lv_aload_n hx hb dX12_isTaken_8 rfl (lv_at hl 0 rfl) ?_
    refine lv_aload_n hx hb dX12_isTaken_9 rfl (lv_at hl 0 rfl) ?_
    refine gw_get (v := .int (σ.1 9)) F inc_X12 hW 0 10 27 (aM_0 K σ) rfl (by decide) (hG _ q_6_139) (fun _ h9 => h9) rfl dX12_isTaken_10 ?_
    refine lv_iload_n hx hb dX12_isTaken_13 rfl (lv_at hl 2 rfl) ?_
    obtain ⟨o3, h4, hf⟩ := gw_bind hf
    refine gw_Vz (As := [.int (σ.1 9), .int x2]) (mc' := 0) (ms' := 0) F hW (mMX12_finds_0 h4) (cwV 2 hts (gT_V q_7_95 q_7_97 qp_54 q_1_12 q_7_98) rfl rfl rfl hdX12_finds ⟨Nat.le_of_ble_eq_true rfl, Nat.le_of_ble_eq_true rfl⟩) 0 10 (aM_0 K σ) rfl rfl hl.1 rfl (Nat.le_of_ble_eq_true rfl) dX12_isTaken_14 ⟨Nat.le_of_ble_eq_true rfl, Nat.le_of_ble_eq_true rfl⟩ rfl rfl (fun H locs z5 hW => ?_)
    refine lv_if_eq (tgt := 98) hx hb dX12_isTaken_17 (by decide) (fun c6 => ?_) (fun c6 => ?_)
    · replace hf := (if_pos c6).symm.trans hf
      refine lv_iload_n hx hb dX12_isTaken_98 rfl (lv_at hl 1 rfl) ?_
      rcases Decidable.em (x1 = 0 ∨ x1 = 1) with c7 | c7
      · replace hf := (if_pos c7).symm.trans hf
        exact gw_retz F hW hf c7 dX12_isTaken_99
      · replace hf := (if_neg c7).symm.trans hf
        exact absurd hf (by simp)
    · replace hf := (if_neg c6).symm.trans hf
      refine lv_aload_n hx hb dX12_isTaken_20 rfl (lv_at hl 0 rfl) ?_
      refine lv_aload_n hx hb dX12_isTaken_21 rfl (lv_at hl 0 rfl) ?_
      refine gw_get (v := .int (o3.2.1 10)) F inc_X12 hW 0 10 28 (aM_0 K o3.2) rfl (by decide) (hG _ q_6_140) (fun _ h9 => h9) rfl dX12_isTaken_22 ?_
      refine lv_bipush (v := (6 : Int32)) hx hb dX12_isTaken_25 (by decide) ?_
      refine lv_iadd hx hb dX12_isTaken_27 ?_
      obtain ⟨o8, h9, hf⟩ := gw_bind hf
      refine gw_Vi (As := [.int ((o3.2.1 10) + (6 : Int32))]) (mc' := 0) (ms' := 0) F hW (mMX12_one_0 h9) (cwV 1 hts (gT_V q_7_107 q_7_109 qp_57 q_1_12 q_7_110) rfl rfl rfl hdX12_one ⟨Nat.le_of_ble_eq_true rfl, Nat.le_of_ble_eq_true rfl⟩) 0 10 (aM_0 K o3.2) rfl rfl hl.1 rfl (Nat.le_of_ble_eq_true rfl) dX12_isTaken_28 ⟨Nat.le_of_ble_eq_true rfl, Nat.le_of_ble_eq_true rfl⟩ rfl rfl (fun H locs hW => ?_)
      refine lv_aload_n hx hb dX12_isTaken_31 rfl (lv_at hl 0 rfl) ?_
      refine gw_get (v := .int (o8.2.1 12)) F inc_X12 hW 0 10 31 (aM_0 K o8.2) rfl (by decide) (hG _ q_6_143) (fun _ h9 => h9) rfl dX12_isTaken_32 ?_
      refine lv_icmp_ne (tgt := 42) hx hb dX12_isTaken_35 (by decide) (fun c11 => ?_) (fun c11 => ?_)
      · replace hf := (if_neg c11).symm.trans hf
        refine lv_iconst (v := (0 : Int32)) hx hb dX12_isTaken_42 (by decide) ?_
        exact wMX12_isTaken_0_43 F hk4 x2 (0 : Int32) _ _ hf _ _ _ (lv_sub hl [0, 2] rfl) hW
      · replace hf := (if_pos c11).symm.trans hf
        refine lv_iconst (v := (1 : Int32)) hx hb dX12_isTaken_38 (by decide) ?_
        refine lv_goto (tgt := 43) hx hb dX12_isTaken_39 (by decide) ?_
        exact wMX12_isTaken_0_43 F hk4 x2 (1 : Int32) _ _ hf _ _ _ (lv_sub hl [0, 2] rfl) hW
set_option maxHeartbeats 4000000 in
set_option maxRecDepth 100000 in
theorem wMX12_isTaken_0_0 {p : Program} {l : Launch} {e : Env} {s : State} {m : MethodId} {args : Array Value} {below : List Frame} {meth : Method} {c : Code} {A : Nat → Prop} {K : KX} (F : fx_ p s m args meth c cX12_isTaken 4 (some .boolean) RX12 wsX12_isTaken) (σ : XS) (o : (Int32 × XS)) (hf : fMX12_isTaken_0_0 (kn K) σ = some o) (H : Heap) (locs : List Loc) (ls : Array Slot) (hl : lv_has ls 4 [(0, .ref (ka K 0))]) (hW : gw_ (kD K) vwCl (tyM K) (wM K) A s σ H locs) : W p l e rMX12_isTaken_0 s m args below meth c H locs 0 0 (MQ below (va_Qi (fun r u => (r = o.1 ∧ u = o.2) ∧ (o.1 = 0 ∨ o.1 = 1)) (gw_B (kD K) vwCl (tyM K) (wM K) A) A) args s rMX12_isTaken_0.cells rMX12_isTaken_0.slots A) (F0 m 0 ls []) := by
  have hx := F.1
  have hb := F.2.1
  have hml := F.2.2.2.1
  have hown := F.2.2.2.2.1
  have hts := F.2.2.2.2.2.1
  have hG : ∀ x ∈ gT, x.before args s = true := fun x h => hts x (List.mem_cons_of_mem _ h)
  unfold fMX12_isTaken_0_0 at hf
  refine lv_iconst (v := (0 : Int32)) hx hb dX12_isTaken_0 (by decide) ?_
  refine lv_istore_n (lv' := [(1, .int (0 : Int32)), (0, .ref (ka K 0))]) hx hb dX12_isTaken_1 rfl hl (by decide) rfl (fun ls hl => ?_)
  refine lv_iconst (v := (0 : Int32)) hx hb dX12_isTaken_2 (by decide) ?_
  refine lv_istore_n (lv' := [(2, .int (0 : Int32)), (1, .int (0 : Int32)), (0, .ref (ka K 0))]) hx hb dX12_isTaken_3 rfl hl (by decide) rfl (fun ls hl => ?_)
  exact lfix_ind (P := PMX12_isTaken_0_4 p l e s m args below meth c A K) (fun k4 hk4 t o hf => wMX12_isTaken_0_4 F hk4 t.1 t.2.1 t.2.2 o hf) FU _ _ hf _ _ _ (lv_sub hl [2, 1, 0] rfl) hW
set_option maxHeartbeats 4000000 in
set_option maxRecDepth 100000 in
theorem mMX12_isTaken_0 {l : Launch} {K : KX} {σ : XS} {o : (Int32 × XS)} (hf : fMX12_isTaken_0 (kn K) σ = some o) : gw_Mz l (kD K) vwCl (tyM K) (wM K) yX12_isTaken wsX12_isTaken rMX12_isTaken_0 [.ref (ka K 0)] σ o := by
  intro sz
  refine gw_body (cc := cX12_isTaken) (maxL := 4) (yret := some .boolean) (by decide +kernel) rfl ?_ (Nat.le_of_ble_eq_true rfl)
  intro p e s m below meth c F hsz hW ls hl
  exact wMX12_isTaken_0_0 F σ o hf s.heap [] ls hl hW
abbrev rMX12_spot_0 : Room := { frames := 4, cells := 0, slots := 0, locals := 84 }
def PMX12_spot_0_46 (p : Program) (l : Launch) (e : Env) (s : State) (m : MethodId) (args : Array Value) (below : List Frame) (meth : Method) (c : Code) (A : Nat → Prop) (K : KX) (t : (Int32 × Int32 × Int32 × Int32 × XS)) (o : (Int32 × XS)) : Prop := ∀ (H : Heap) (locs : List Loc) (ls : Array Slot), lv_has ls 5 [(0, .ref (ka K 0)), (1, .int t.1), (2, .int t.2.1), (3, .int t.2.2.1), (4, .int t.2.2.2.1)] → gw_ (kD K) vwCl (tyM K) (wM K) A s t.2.2.2.2 H locs → W p l e rMX12_spot_0 s m args below meth c H locs 0 0 (MQ below (gw_Qi (kD K) vwCl (tyM K) (wM K) A o) args s rMX12_spot_0.cells rMX12_spot_0.slots A) (F0 m 46 ls [])
def PMX12_spot_0_26 (p : Program) (l : Launch) (e : Env) (s : State) (m : MethodId) (args : Array Value) (below : List Frame) (meth : Method) (c : Code) (A : Nat → Prop) (K : KX) (t : (Int32 × Int32 × Int32 × XS)) (o : (Int32 × XS)) : Prop := ∀ (H : Heap) (locs : List Loc) (ls : Array Slot), lv_has ls 5 [(0, .ref (ka K 0)), (1, .int t.1), (2, .int t.2.1), (3, .int t.2.2.1)] → gw_ (kD K) vwCl (tyM K) (wM K) A s t.2.2.2 H locs → W p l e rMX12_spot_0 s m args below meth c H locs 0 0 (MQ below (gw_Qi (kD K) vwCl (tyM K) (wM K) A o) args s rMX12_spot_0.cells rMX12_spot_0.slots A) (F0 m 26 ls [])
set_option maxHeartbeats 4000000 in
set_option maxRecDepth 100000 in
theorem wMX12_spot_0_46 {p : Program} {l : Launch} {e : Env} {s : State} {m : MethodId} {args : Array Value} {below : List Frame} {meth : Method} {c : Code} {A : Nat → Prop} {K : KX} (F : fx_ p s m args meth c cX12_spot 5 (some .int) RX12 wsX12_spot) {k26 : (Int32 × Int32 × Int32 × XS) → Option (Int32 × XS)} (hk26 : ∀ t o, k26 t = some o → PMX12_spot_0_26 p l e s m args below meth c A K t o) {k46 : (Int32 × Int32 × Int32 × Int32 × XS) → Option (Int32 × XS)} (hk46 : ∀ t o, k46 t = some o → PMX12_spot_0_46 p l e s m args below meth c A K t o) (x1 : Int32) (x2 : Int32) (x3 : Int32) (x4 : Int32) (σ : XS) (o : (Int32 × XS)) (hf : fMX12_spot_0_46 (kn K) k26 k46 x1 x2 x3 x4 σ = some o) (H : Heap) (locs : List Loc) (ls : Array Slot) (hl : lv_has ls 5 [(0, .ref (ka K 0)), (1, .int x1), (2, .int x2), (3, .int x3), (4, .int x4)]) (hW : gw_ (kD K) vwCl (tyM K) (wM K) A s σ H locs) : W p l e rMX12_spot_0 s m args below meth c H locs 0 0 (MQ below (gw_Qi (kD K) vwCl (tyM K) (wM K) A o) args s rMX12_spot_0.cells rMX12_spot_0.slots A) (F0 m 46 ls []) := by
  have hx := F.1
  have hb := F.2.1
  have hml := F.2.2.2.1
  have hown := F.2.2.2.2.1
  have hts := F.2.2.2.2.2.1
  have hG : ∀ x ∈ gT, x.before args s = true := fun x h => hts x (List.mem_cons_of_mem _ h)
  unfold fMX12_spot_0_46 at hf
  refine lv_iload hx hb dX12_spot_46 (lv_at hl 4 rfl) ?_
  refine lv_sipush (v := (1024 : Int32)) hx hb dX12_spot_48 (by decide) ?_
  refine lv_iload_n hx hb dX12_spot_51 rfl (lv_at hl 2 rfl) ?_
  refine lv_imul hx hb dX12_spot_52 ?_
  refine lv_sipush (v := (1024 : Int32)) hx hb dX12_spot_53 (by decide) ?_
  refine lv_iadd hx hb dX12_spot_56 ?_
  refine lv_icmp_ge (tgt := 116) hx hb dX12_spot_57 (by decide) (fun c7 => ?_) (fun c7 => ?_)
  · replace hf := (if_pos c7).symm.trans hf
    refine lv_aload_n hx hb dX12_spot_116 rfl (lv_at hl 0 rfl) ?_
    refine gw_get (v := .ref (ka K 6)) F inc_X12 hW 0 10 15 (aM_0 K σ) rfl (by decide) (hG _ q_6_127) (fun _ h9 => h9) rfl dX12_spot_117 ?_
    refine lv_iload_n hx hb dX12_spot_120 rfl (lv_at hl 2 rfl) ?_
    rcases Decidable.em (x2 < 0 ∨ 512 ≤ x2.toNatClampNeg) with c8 | c8
    · replace hf := (if_pos c8).symm.trans hf
      exact absurd hf (by simp)
    · replace hf := (if_neg c8).symm.trans hf
      refine gw_iald F hW 6 5 (aM_6 K σ) rfl c8 dX12_spot_121 ?_
      refine lv_istore_n (lv' := [(2, .int (σ.2.1 5 x2.toNatClampNeg)), (0, .ref (ka K 0)), (1, .int x1), (3, .int x3), (4, .int x4)]) hx hb dX12_spot_122 rfl hl (by decide) rfl (fun ls hl => ?_)
      refine lv_iinc (v := (x3 + (1 : Int32))) (lv' := [(3, .int (x3 + (1 : Int32))), (2, .int (σ.2.1 5 x2.toNatClampNeg)), (0, .ref (ka K 0)), (1, .int x1), (4, .int x4)]) hx hb dX12_spot_123 hl (k := 3) rfl rfl (by decide) rfl (fun ls hl => ?_)
      refine lv_goto (tgt := 26) hx hb dX12_spot_126 (by decide) ?_
      exact hk26 _ _ hf _ _ _ (lv_sub hl [2, 3, 1, 0] rfl) hW
  · replace hf := (if_neg c7).symm.trans hf
    refine lv_aload_n hx hb dX12_spot_60 rfl (lv_at hl 0 rfl) ?_
    refine lv_iload hx hb dX12_spot_61 (lv_at hl 4 rfl) ?_
    refine gw_put (σ' := (stS σ 10 x4)) (ty := .int) F inc_X12 tyX12 tyX12_ok nmX12 hW 0 10 28 (aM_0 K σ) rfl (by decide) (hG _ q_6_140) (fun _ h9 => h9) rfl (by decide +kernel) rfl rfl (Nat.le_of_ble_eq_true rfl) dX12_spot_63 (sSM_10 _ _ _) (fun H locs hW => ?_)
    refine lv_aload_n hx hb dX12_spot_66 rfl (lv_at hl 0 rfl) ?_
    refine lv_iload hx hb dX12_spot_67 (lv_at hl 4 rfl) ?_
    refine lv_iconst (v := (4 : Int32)) hx hb dX12_spot_69 (by decide) ?_
    refine lv_iadd hx hb dX12_spot_70 ?_
    obtain ⟨o9, h10, hf⟩ := gw_bind hf
    refine gw_Vi (As := [.int (x4 + (4 : Int32))]) (mc' := 0) (ms' := 0) F hW (mMX12_two_0 h10) (cwV 1 hts (gT_V q_7_103 q_7_105 qp_56 q_1_12 q_7_106) rfl rfl rfl hdX12_two ⟨Nat.le_of_ble_eq_true rfl, Nat.le_of_ble_eq_true rfl⟩) 0 10 (aM_0 K (stS σ 10 x4)) rfl rfl hl.1 rfl (Nat.le_of_ble_eq_true rfl) dX12_spot_71 ⟨Nat.le_of_ble_eq_true rfl, Nat.le_of_ble_eq_true rfl⟩ rfl rfl (fun H locs hW => ?_)
    refine lv_aload_n hx hb dX12_spot_74 rfl (lv_at hl 0 rfl) ?_
    refine lv_iload hx hb dX12_spot_75 (lv_at hl 4 rfl) ?_
    obtain ⟨o12, h13, hf⟩ := gw_bind hf
    refine gw_Vi (As := [.int x4]) (mc' := 0) (ms' := 0) F hW (mMX12_uses_0 h13) (cwV 1 hts (gT_V q_7_156 q_7_158 qp_63 q_1_12 q_7_159) rfl rfl rfl hdX12_uses ⟨Nat.le_of_ble_eq_true rfl, Nat.le_of_ble_eq_true rfl⟩) 0 10 (aM_0 K o9.2) rfl rfl hl.1 rfl (Nat.le_of_ble_eq_true rfl) dX12_spot_77 ⟨Nat.le_of_ble_eq_true rfl, Nat.le_of_ble_eq_true rfl⟩ rfl rfl (fun H locs hW => ?_)
    refine lv_isub hx hb dX12_spot_80 ?_
    refine lv_iload_n hx hb dX12_spot_81 rfl (lv_at hl 1 rfl) ?_
    refine lv_icmp_lt (tgt := 100) hx hb dX12_spot_82 (by decide) (fun c15 => ?_) (fun c15 => ?_)
    · replace hf := (if_pos c15).symm.trans hf
      refine lv_iload hx hb dX12_spot_100 (lv_at hl 4 rfl) ?_
      refine lv_aload_n hx hb dX12_spot_102 rfl (lv_at hl 0 rfl) ?_
      refine lv_iload hx hb dX12_spot_103 (lv_at hl 4 rfl) ?_
      refine lv_iconst (v := (4 : Int32)) hx hb dX12_spot_105 (by decide) ?_
      refine lv_iadd hx hb dX12_spot_106 ?_
      obtain ⟨o16, h17, hf⟩ := gw_bind hf
      refine gw_Vi (As := [.int (x4 + (4 : Int32))]) (mc' := 0) (ms' := 0) F hW (mMX12_two_0 h17) (cwV 1 hts (gT_V q_7_103 q_7_105 qp_56 q_1_12 q_7_106) rfl rfl rfl hdX12_two ⟨Nat.le_of_ble_eq_true rfl, Nat.le_of_ble_eq_true rfl⟩) 0 10 (aM_0 K o12.2) rfl rfl hl.1 rfl (Nat.le_of_ble_eq_true rfl) dX12_spot_107 ⟨Nat.le_of_ble_eq_true rfl, Nat.le_of_ble_eq_true rfl⟩ rfl rfl (fun H locs hW => ?_)
      refine lv_iadd hx hb dX12_spot_110 ?_
      refine lv_istore (lv' := [(4, .int (x4 + o16.1)), (0, .ref (ka K 0)), (1, .int x1), (2, .int x2), (3, .int x3)]) hx hb dX12_spot_111 hl (by decide) rfl (fun ls hl => ?_)
      refine lv_goto (tgt := 46) hx hb dX12_spot_113 (by decide) ?_
      exact hk46 _ _ hf _ _ _ (lv_sub hl [1, 2, 3, 4, 0] rfl) hW
    · replace hf := (if_neg c15).symm.trans hf
      refine lv_aload_n hx hb dX12_spot_85 rfl (lv_at hl 0 rfl) ?_
      refine lv_iload hx hb dX12_spot_86 (lv_at hl 4 rfl) ?_
      obtain ⟨o19, h20, hf⟩ := gw_bind hf
      refine gw_Vi (As := [.int x4]) (mc' := 0) (ms' := 0) F hW (mMX12_uses_0 h20) (cwV 1 hts (gT_V q_7_156 q_7_158 qp_63 q_1_12 q_7_159) rfl rfl rfl hdX12_uses ⟨Nat.le_of_ble_eq_true rfl, Nat.le_of_ble_eq_true rfl⟩) 0 10 (aM_0 K o12.2) rfl rfl hl.1 rfl (Nat.le_of_ble_eq_true rfl) dX12_spot_88 ⟨Nat.le_of_ble_eq_true rfl, Nat.le_of_ble_eq_true rfl⟩ rfl rfl (fun H locs hW => ?_)
      refine lv_if_ne (tgt := 98) hx hb dX12_spot_91 (by decide) (fun c22 => ?_) (fun c22 => ?_)
      · replace hf := (if_neg c22).symm.trans hf
        refine lv_iconst (v := (1 : Int32)) hx hb dX12_spot_98 (by decide) ?_
        exact gw_reti F hW hf dX12_spot_99
      · replace hf := (if_pos c22).symm.trans hf
        refine lv_iconst (v := (2 : Int32)) hx hb dX12_spot_94 (by decide) ?_
        refine lv_goto (tgt := 99) hx hb dX12_spot_95 (by decide) ?_
        exact gw_reti F hW hf dX12_spot_99
set_option maxHeartbeats 4000000 in
set_option maxRecDepth 100000 in
theorem wMX12_spot_0_26 {p : Program} {l : Launch} {e : Env} {s : State} {m : MethodId} {args : Array Value} {below : List Frame} {meth : Method} {c : Code} {A : Nat → Prop} {K : KX} (F : fx_ p s m args meth c cX12_spot 5 (some .int) RX12 wsX12_spot) {k26 : (Int32 × Int32 × Int32 × XS) → Option (Int32 × XS)} (hk26 : ∀ t o, k26 t = some o → PMX12_spot_0_26 p l e s m args below meth c A K t o) (x1 : Int32) (x2 : Int32) (x3 : Int32) (σ : XS) (o : (Int32 × XS)) (hf : fMX12_spot_0_26 (kn K) k26 x1 x2 x3 σ = some o) (H : Heap) (locs : List Loc) (ls : Array Slot) (hl : lv_has ls 5 [(0, .ref (ka K 0)), (1, .int x1), (2, .int x2), (3, .int x3)]) (hW : gw_ (kD K) vwCl (tyM K) (wM K) A s σ H locs) : W p l e rMX12_spot_0 s m args below meth c H locs 0 0 (MQ below (gw_Qi (kD K) vwCl (tyM K) (wM K) A o) args s rMX12_spot_0.cells rMX12_spot_0.slots A) (F0 m 26 ls []) := by
  have hx := F.1
  have hb := F.2.1
  have hml := F.2.2.2.1
  have hown := F.2.2.2.2.1
  have hts := F.2.2.2.2.2.1
  have hG : ∀ x ∈ gT, x.before args s = true := fun x h => hts x (List.mem_cons_of_mem _ h)
  unfold fMX12_spot_0_26 at hf
  refine lv_iload_n hx hb dX12_spot_26 rfl (lv_at hl 3 rfl) ?_
  refine lv_aload_n hx hb dX12_spot_27 rfl (lv_at hl 0 rfl) ?_
  refine gw_get (v := .ref (ka K 10)) F inc_X12 hW 0 10 19 (aM_0 K σ) rfl (by decide) (hG _ q_6_131) (fun _ h9 => h9) rfl dX12_spot_28 ?_
  refine lv_aload_n hx hb dX12_spot_31 rfl (lv_at hl 0 rfl) ?_
  refine gw_get (v := .int (σ.1 9)) F inc_X12 hW 0 10 27 (aM_0 K σ) rfl (by decide) (hG _ q_6_139) (fun _ h9 => h9) rfl dX12_spot_32 ?_
  rcases Decidable.em ((σ.1 9) < 0 ∨ 2100 ≤ (σ.1 9).toNatClampNeg) with c5 | c5
  · replace hf := (if_pos c5).symm.trans hf
    exact absurd hf (by simp)
  · replace hf := (if_neg c5).symm.trans hf
    refine gw_iald F hW 10 9 (aM_10 K σ) rfl c5 dX12_spot_35 ?_
    refine lv_icmp_ge (tgt := 129) hx hb dX12_spot_36 (by decide) (fun c6 => ?_) (fun c6 => ?_)
    · replace hf := (if_pos c6).symm.trans hf
      refine lv_iconst (v := (0 : Int32)) hx hb dX12_spot_129 (by decide) ?_
      exact gw_reti F hW hf dX12_spot_130
    · replace hf := (if_neg c6).symm.trans hf
      refine lv_sipush (v := (1024 : Int32)) hx hb dX12_spot_39 (by decide) ?_
      refine lv_iload_n hx hb dX12_spot_42 rfl (lv_at hl 2 rfl) ?_
      refine lv_imul hx hb dX12_spot_43 ?_
      refine lv_istore (lv' := [(4, .int ((1024 : Int32) * x2)), (0, .ref (ka K 0)), (1, .int x1), (2, .int x2), (3, .int x3)]) hx hb dX12_spot_44 hl (by decide) rfl (fun ls hl => ?_)
      exact lfix_ind (P := PMX12_spot_0_46 p l e s m args below meth c A K) (fun k46 hk46 t o hf => wMX12_spot_0_46 F hk26 hk46 t.1 t.2.1 t.2.2.1 t.2.2.2.1 t.2.2.2.2 o hf) FU _ _ hf _ _ _ (lv_sub hl [1, 2, 3, 4, 0] rfl) hW
set_option maxHeartbeats 4000000 in
set_option maxRecDepth 100000 in
theorem wMX12_spot_0_0 {p : Program} {l : Launch} {e : Env} {s : State} {m : MethodId} {args : Array Value} {below : List Frame} {meth : Method} {c : Code} {A : Nat → Prop} {K : KX} (F : fx_ p s m args meth c cX12_spot 5 (some .int) RX12 wsX12_spot) (σ : XS) (o : (Int32 × XS)) (hf : fMX12_spot_0_0 (kn K) σ = some o) (H : Heap) (locs : List Loc) (ls : Array Slot) (hl : lv_has ls 5 [(0, .ref (ka K 0))]) (hW : gw_ (kD K) vwCl (tyM K) (wM K) A s σ H locs) : W p l e rMX12_spot_0 s m args below meth c H locs 0 0 (MQ below (gw_Qi (kD K) vwCl (tyM K) (wM K) A o) args s rMX12_spot_0.cells rMX12_spot_0.slots A) (F0 m 0 ls []) := by
  have hx := F.1
  have hb := F.2.1
  have hml := F.2.2.2.1
  have hown := F.2.2.2.2.1
  have hts := F.2.2.2.2.2.1
  have hG : ∀ x ∈ gT, x.before args s = true := fun x h => hts x (List.mem_cons_of_mem _ h)
  unfold fMX12_spot_0_0 at hf
  refine lv_bipush (v := (8 : Int32)) hx hb dX12_spot_0 (by decide) ?_
  refine lv_aload_n hx hb dX12_spot_2 rfl (lv_at hl 0 rfl) ?_
  refine gw_get (v := .int (σ.1 12)) F inc_X12 hW 0 10 31 (aM_0 K σ) rfl (by decide) (hG _ q_6_143) (fun _ h9 => h9) rfl dX12_spot_3 ?_
  refine lv_iconst (v := (4 : Int32)) hx hb dX12_spot_6 (by decide) ?_
  obtain ⟨o1, h2, hf⟩ := gw_bind hf
  refine gw_Si (As := [.int (σ.1 12), .int (4 : Int32)]) (mc' := 0) (ms' := 0) F hW (mMX12_parts h2) (va_cwS 2 hts (gT_S q_6_230 q_6_231 q_1_12 q_6_232) rfl rfl rfl hdX12_parts.2 ⟨Nat.le_of_ble_eq_true rfl, Nat.le_of_ble_eq_true rfl⟩) rfl hl.1 rfl (Nat.le_of_ble_eq_true rfl) dX12_spot_7 ⟨Nat.le_of_ble_eq_true rfl, Nat.le_of_ble_eq_true rfl⟩ rfl rfl (fun H locs hW => ?_)
  refine lv_iconst (v := (4 : Int32)) hx hb dX12_spot_10 (by decide) ?_
  refine lv_imul hx hb dX12_spot_11 ?_
  refine lv_iadd hx hb dX12_spot_12 ?_
  refine lv_istore_n (lv' := [(1, .int ((8 : Int32) + (o1.1 * (4 : Int32)))), (0, .ref (ka K 0))]) hx hb dX12_spot_13 rfl hl (by decide) rfl (fun ls hl => ?_)
  refine lv_aload_n hx hb dX12_spot_14 rfl (lv_at hl 1 rfl) ?_
  refine gw_get (v := .ref (ka K 11)) F inc_X12 hW 0 10 20 (aM_0 K o1.2) rfl (by decide) (hG _ q_6_132) (fun _ h9 => h9) rfl dX12_spot_15 ?_
  refine lv_aload_n hx hb dX12_spot_18 rfl (lv_at hl 1 rfl) ?_
  refine gw_get (v := .int (o1.2.1 9)) F inc_X12 hW 0 10 27 (aM_0 K o1.2) rfl (by decide) (hG _ q_6_139) (fun _ h9 => h9) rfl dX12_spot_19 ?_
  rcases Decidable.em ((o1.2.1 9) < 0 ∨ 2100 ≤ (o1.2.1 9).toNatClampNeg) with c4 | c4
  · replace hf := (if_pos c4).symm.trans hf
    exact absurd hf (by simp)
  · replace hf := (if_neg c4).symm.trans hf
    refine gw_iald F hW 11 10 (aM_11 K o1.2) rfl c4 dX12_spot_22 ?_
    refine lv_istore_n (lv' := [(2, .int (o1.2.2.1 10 (o1.2.1 9).toNatClampNeg)), (1, .int ((8 : Int32) + (o1.1 * (4 : Int32)))), (0, .ref (ka K 0))]) hx hb dX12_spot_23 rfl hl (by decide) rfl (fun ls hl => ?_)
    refine lv_iconst (v := (0 : Int32)) hx hb dX12_spot_24 (by decide) ?_
    refine lv_istore_n (lv' := [(3, .int (0 : Int32)), (2, .int (o1.2.2.1 10 (o1.2.1 9).toNatClampNeg)), (1, .int ((8 : Int32) + (o1.1 * (4 : Int32)))), (0, .ref (ka K 0))]) hx hb dX12_spot_25 rfl hl (by decide) rfl (fun ls hl => ?_)
    exact lfix_ind (P := PMX12_spot_0_26 p l e s m args below meth c A K) (fun k26 hk26 t o hf => wMX12_spot_0_26 F hk26 t.1 t.2.1 t.2.2.1 t.2.2.2 o hf) FU _ _ hf _ _ _ (lv_sub hl [3, 2, 1, 0] rfl) hW
set_option maxHeartbeats 4000000 in
set_option maxRecDepth 100000 in
theorem mMX12_spot_0 {l : Launch} {K : KX} {σ : XS} {o : (Int32 × XS)} (hf : fMX12_spot_0 (kn K) σ = some o) : gw_Mi l (kD K) vwCl (tyM K) (wM K) yX12_spot wsX12_spot rMX12_spot_0 [.ref (ka K 0)] σ o := by
  intro sz
  refine gw_body (cc := cX12_spot) (maxL := 5) (yret := some .int) (by decide +kernel) rfl ?_ (Nat.le_of_ble_eq_true rfl)
  intro p e s m below meth c F hsz hW ls hl
  exact wMX12_spot_0_0 F σ o hf s.heap [] ls hl hW
abbrev rMX12_make_0 : Room := { frames := 5, cells := 0, slots := 0, locals := 112 }
def PMX12_make_0_382 (p : Program) (l : Launch) (e : Env) (s : State) (m : MethodId) (args : Array Value) (below : List Frame) (meth : Method) (c : Code) (A : Nat → Prop) (K : KX) (t : (Int32 × Int32 × XS)) (o : (Int32 × XS)) : Prop := ∀ (H : Heap) (locs : List Loc) (ls : Array Slot), lv_has ls 10 [(0, .ref (ka K 0)), (7, .int t.1), (8, .int t.2.1)] → gw_ (kD K) vwCl (tyM K) (wM K) A s t.2.2 H locs → W p l e rMX12_make_0 s m args below meth c H locs 0 0 (MQ below (gw_Qi (kD K) vwCl (tyM K) (wM K) A o) args s rMX12_make_0.cells rMX12_make_0.slots A) (F0 m 382 ls [])
def PMX12_make_0_50 (p : Program) (l : Launch) (e : Env) (s : State) (m : MethodId) (args : Array Value) (below : List Frame) (meth : Method) (c : Code) (A : Nat → Prop) (K : KX) (t : (Int32 × Int32 × Int32 × XS)) (o : (Int32 × XS)) : Prop := ∀ (H : Heap) (locs : List Loc) (ls : Array Slot), lv_has ls 10 [(0, .ref (ka K 0)), (1, .int t.1), (4, .int t.2.1), (5, .int t.2.2.1)] → gw_ (kD K) vwCl (tyM K) (wM K) A s t.2.2.2 H locs → W p l e rMX12_make_0 s m args below meth c H locs 0 0 (MQ below (gw_Qi (kD K) vwCl (tyM K) (wM K) A o) args s rMX12_make_0.cells rMX12_make_0.slots A) (F0 m 50 ls [])
set_option maxHeartbeats 4000000 in
set_option maxRecDepth 100000 in
theorem wMX12_make_0_382 {p : Program} {l : Launch} {e : Env} {s : State} {m : MethodId} {args : Array Value} {below : List Frame} {meth : Method} {c : Code} {A : Nat → Prop} {K : KX} (F : fx_ p s m args meth c cX12_make 10 (some .int) RX12 wsX12_make) {k382 : (Int32 × Int32 × XS) → Option (Int32 × XS)} (hk382 : ∀ t o, k382 t = some o → PMX12_make_0_382 p l e s m args below meth c A K t o) (x7 : Int32) (x8 : Int32) (σ : XS) (o : (Int32 × XS)) (hf : fMX12_make_0_382 (kn K) k382 x7 x8 σ = some o) (H : Heap) (locs : List Loc) (ls : Array Slot) (hl : lv_has ls 10 [(0, .ref (ka K 0)), (7, .int x7), (8, .int x8)]) (hW : gw_ (kD K) vwCl (tyM K) (wM K) A s σ H locs) : W p l e rMX12_make_0 s m args below meth c H locs 0 0 (MQ below (gw_Qi (kD K) vwCl (tyM K) (wM K) A o) args s rMX12_make_0.cells rMX12_make_0.slots A) (F0 m 382 ls []) := by
  have hx := F.1
  have hb := F.2.1
  have hml := F.2.2.2.1
  have hown := F.2.2.2.2.1
  have hts := F.2.2.2.2.2.1
  have hG : ∀ x ∈ gT, x.before args s = true := fun x h => hts x (List.mem_cons_of_mem _ h)
  unfold fMX12_make_0_382 at hf
  refine lv_aload_n hx hb dX12_make_382 rfl (lv_at hl 0 rfl) ?_
  refine lv_aload_n hx hb dX12_make_383 rfl (lv_at hl 0 rfl) ?_
  refine gw_get (v := .int (σ.1 9)) F inc_X12 hW 0 10 27 (aM_0 K σ) rfl (by decide) (hG _ q_6_139) (fun _ h9 => h9) rfl dX12_make_384 ?_
  refine lv_iload hx hb dX12_make_387 (lv_at hl 2 rfl) ?_
  obtain ⟨o48, h49, hf⟩ := gw_bind hf
  refine gw_Vz (As := [.int (σ.1 9), .int x8]) (mc' := 0) (ms' := 0) F hW (mMX12_finds_0 h49) (cwV 2 hts (gT_V q_7_95 q_7_97 qp_54 q_1_12 q_7_98) rfl rfl rfl hdX12_finds ⟨Nat.le_of_ble_eq_true rfl, Nat.le_of_ble_eq_true rfl⟩) 0 10 (aM_0 K σ) rfl rfl hl.1 rfl (Nat.le_of_ble_eq_true rfl) dX12_make_389 ⟨Nat.le_of_ble_eq_true rfl, Nat.le_of_ble_eq_true rfl⟩ rfl rfl (fun H locs z50 hW => ?_)
  refine lv_if_eq (tgt := 410) hx hb dX12_make_392 (by decide) (fun c51 => ?_) (fun c51 => ?_)
  · replace hf := (if_pos c51).symm.trans hf
    refine lv_iload hx hb dX12_make_410 (lv_at hl 2 rfl) ?_
    exact gw_reti F hW hf dX12_make_412
  · replace hf := (if_neg c51).symm.trans hf
    refine lv_aload_n hx hb dX12_make_395 rfl (lv_at hl 0 rfl) ?_
    refine gw_get (v := .int (o48.2.1 10)) F inc_X12 hW 0 10 28 (aM_0 K o48.2) rfl (by decide) (hG _ q_6_140) (fun _ h9 => h9) rfl dX12_make_396 ?_
    refine lv_iload hx hb dX12_make_399 (lv_at hl 1 rfl) ?_
    refine lv_icmp_eq (tgt := 410) hx hb dX12_make_401 (by decide) (fun c52 => ?_) (fun c52 => ?_)
    · replace hf := (if_pos c52).symm.trans hf
      refine lv_iload hx hb dX12_make_410 (lv_at hl 2 rfl) ?_
      exact gw_reti F hW hf dX12_make_412
    · replace hf := (if_neg c52).symm.trans hf
      refine lv_iinc (v := (x8 + (1 : Int32))) (lv' := [(8, .int (x8 + (1 : Int32))), (0, .ref (ka K 0)), (7, .int x7)]) hx hb dX12_make_404 hl (k := 2) rfl rfl (by decide) rfl (fun ls hl => ?_)
      refine lv_goto (tgt := 382) hx hb dX12_make_407 (by decide) ?_
      exact hk382 _ _ hf _ _ _ (lv_sub hl [1, 2, 0] rfl) hW
set_option maxHeartbeats 4000000 in
set_option maxRecDepth 100000 in
theorem wMX12_make_0_374 {p : Program} {l : Launch} {e : Env} {s : State} {m : MethodId} {args : Array Value} {below : List Frame} {meth : Method} {c : Code} {A : Nat → Prop} {K : KX} (F : fx_ p s m args meth c cX12_make 10 (some .int) RX12 wsX12_make) (x7 : Int32) (σ : XS) (o : (Int32 × XS)) (hf : fMX12_make_0_374 (kn K) x7 σ = some o) (H : Heap) (locs : List Loc) (ls : Array Slot) (hl : lv_has ls 10 [(0, .ref (ka K 0)), (7, .int x7)]) (hW : gw_ (kD K) vwCl (tyM K) (wM K) A s σ H locs) : W p l e rMX12_make_0 s m args below meth c H locs 0 0 (MQ below (gw_Qi (kD K) vwCl (tyM K) (wM K) A o) args s rMX12_make_0.cells rMX12_make_0.slots A) (F0 m 374 ls []) := by
  have hx := F.1
  have hb := F.2.1
  have hml := F.2.2.2.1
  have hown := F.2.2.2.2.1
  have hts := F.2.2.2.2.2.1
  have hG : ∀ x ∈ gT, x.before args s = true := fun x h => hts x (List.mem_cons_of_mem _ h)
  unfold fMX12_make_0_374 at hf
  refine lv_aload_n hx hb dX12_make_374 rfl (lv_at hl 0 rfl) ?_
  refine lv_iconst (v := (0 : Int32)) hx hb dX12_make_375 (by decide) ?_
  refine gw_put (σ' := (stS σ 3 (0 : Int32))) (ty := .boolean) F inc_X12 tyX12 tyX12_ok nmX12 hW 0 10 8 (aM_0 K σ) rfl (by decide) (hG _ q_6_120) (fun _ h9 => h9) rfl (by decide +kernel) rfl rfl (Nat.le_of_ble_eq_true rfl) dX12_make_376 (sSM_3 _ _ _) (fun H locs hW => ?_)
  refine lv_iconst (v := (0 : Int32)) hx hb dX12_make_379 (by decide) ?_
  refine lv_istore (lv' := [(8, .int (0 : Int32)), (0, .ref (ka K 0)), (7, .int x7)]) hx hb dX12_make_380 hl (by decide) rfl (fun ls hl => ?_)
  exact lfix_ind (P := PMX12_make_0_382 p l e s m args below meth c A K) (fun k382 hk382 t o hf => wMX12_make_0_382 F hk382 t.1 t.2.1 t.2.2 o hf) FU _ _ hf _ _ _ (lv_sub hl [1, 2, 0] rfl) hW
set_option maxHeartbeats 4000000 in
set_option maxRecDepth 100000 in
theorem wMX12_make_0_351 {p : Program} {l : Launch} {e : Env} {s : State} {m : MethodId} {args : Array Value} {below : List Frame} {meth : Method} {c : Code} {A : Nat → Prop} {K : KX} (F : fx_ p s m args meth c cX12_make 10 (some .int) RX12 wsX12_make) (x1 : Int32) (x5 : Int32) (x7 : Int32) (σ : XS) (o : (Int32 × XS)) (hf : fMX12_make_0_351 (kn K) x1 x5 x7 σ = some o) (H : Heap) (locs : List Loc) (ls : Array Slot) (hl : lv_has ls 10 [(0, .ref (ka K 0)), (1, .int x1), (5, .int x5), (7, .int x7)]) (hW : gw_ (kD K) vwCl (tyM K) (wM K) A s σ H locs) : W p l e rMX12_make_0 s m args below meth c H locs 0 0 (MQ below (gw_Qi (kD K) vwCl (tyM K) (wM K) A o) args s rMX12_make_0.cells rMX12_make_0.slots A) (F0 m 351 ls []) := by
  have hx := F.1
  have hb := F.2.1
  have hml := F.2.2.2.1
  have hown := F.2.2.2.2.1
  have hts := F.2.2.2.2.2.1
  have hG : ∀ x ∈ gT, x.before args s = true := fun x h => hts x (List.mem_cons_of_mem _ h)
  unfold fMX12_make_0_351 at hf
  refine lv_iload_n hx hb dX12_make_351 rfl (lv_at hl 1 rfl) ?_
  refine lv_if_eq (tgt := 374) hx hb dX12_make_352 (by decide) (fun c47 => ?_) (fun c47 => ?_)
  · replace hf := (if_pos c47).symm.trans hf
    exact wMX12_make_0_374 F x7 _ _ hf _ _ _ (lv_sub hl [0, 3] rfl) hW
  · replace hf := (if_neg c47).symm.trans hf
    refine lv_aload_n hx hb dX12_make_355 rfl (lv_at hl 0 rfl) ?_
    refine lv_iload hx hb dX12_make_356 (lv_at hl 2 rfl) ?_
    obtain ⟨o53, h54, hf⟩ := gw_bind hf
    refine gw_Vv (As := [.int x5]) (mc' := 0) (ms' := 0) F hW (mMX12_folder_0 h54) (cwV 1 hts (gT_V q_7_1 q_7_3 qp_37 q_1_12 q_7_4) rfl rfl rfl hdX12_folder ⟨Nat.le_of_ble_eq_true rfl, Nat.le_of_ble_eq_true rfl⟩) 0 10 (aM_0 K σ) rfl rfl hl.1 rfl (Nat.le_of_ble_eq_true rfl) dX12_make_358 ⟨Nat.le_of_ble_eq_true rfl, Nat.le_of_ble_eq_true rfl⟩ rfl rfl (fun H locs hW => ?_)
    refine lv_aload_n hx hb dX12_make_361 rfl (lv_at hl 0 rfl) ?_
    refine gw_get (v := .ref (ka K 9)) F inc_X12 hW 0 10 18 (aM_0 K o53) rfl (by decide) (hG _ q_6_130) (fun _ h9 => h9) rfl dX12_make_362 ?_
    refine lv_aload_n hx hb dX12_make_365 rfl (lv_at hl 0 rfl) ?_
    refine gw_get (v := .int (o53.1 9)) F inc_X12 hW 0 10 27 (aM_0 K o53) rfl (by decide) (hG _ q_6_139) (fun _ h9 => h9) rfl dX12_make_366 ?_
    refine lv_dup2_11 hx hb dX12_make_369 rfl rfl ?_
    rcases Decidable.em ((o53.1 9) < 0 ∨ 2100 ≤ (o53.1 9).toNatClampNeg) with c56 | c56
    · replace hf := (if_pos c56).symm.trans hf
      exact absurd hf (by simp)
    · replace hf := (if_neg c56).symm.trans hf
      refine gw_iald F hW 9 8 (aM_9 K o53) rfl c56 dX12_make_370 ?_
      refine lv_iconst (v := (1 : Int32)) hx hb dX12_make_371 (by decide) ?_
      refine lv_iadd hx hb dX12_make_372 ?_
      rcases Decidable.em ((o53.1 9) < 0 ∨ 2100 ≤ (o53.1 9).toNatClampNeg) with c57 | c57
      · replace hf := (if_pos c57).symm.trans hf
        exact absurd hf (by simp)
      · replace hf := (if_neg c57).symm.trans hf
        refine gw_iast (σ' := (stA o53 8 (o53.1 9).toNatClampNeg ((o53.2.1 8 (o53.1 9).toNatClampNeg) + (1 : Int32)))) F hW 9 8 (aM_9 K o53) rfl c57 dX12_make_373 (sAM_8 _ _ _) (fun H locs hW => ?_)
        exact wMX12_make_0_374 F x7 _ _ hf _ _ _ (lv_sub hl [0, 3] rfl) hW
set_option maxHeartbeats 4000000 in
set_option maxRecDepth 100000 in
theorem wMX12_make_0_327 {p : Program} {l : Launch} {e : Env} {s : State} {m : MethodId} {args : Array Value} {below : List Frame} {meth : Method} {c : Code} {A : Nat → Prop} {K : KX} (F : fx_ p s m args meth c cX12_make 10 (some .int) RX12 wsX12_make) (x1 : Int32) (x5 : Int32) (x7 : Int32) (x8 : Int32) (x9 : Int32) (σ : XS) (o : (Int32 × XS)) (hf : fMX12_make_0_327 (kn K) x1 x5 x7 x8 x9 σ = some o) (H : Heap) (locs : List Loc) (ls : Array Slot) (hl : lv_has ls 10 [(0, .ref (ka K 0)), (1, .int x1), (5, .int x5), (7, .int x7), (8, .int x8), (9, .int x9)]) (hW : gw_ (kD K) vwCl (tyM K) (wM K) A s σ H locs) : W p l e rMX12_make_0 s m args below meth c H locs 0 0 (MQ below (gw_Qi (kD K) vwCl (tyM K) (wM K) A o) args s rMX12_make_0.cells rMX12_make_0.slots A) (F0 m 327 ls []) := by
  have hx := F.1
  have hb := F.2.1
  have hml := F.2.2.2.1
  have hown := F.2.2.2.2.1
  have hts := F.2.2.2.2.2.1
  have hG : ∀ x ∈ gT, x.before args s = true := fun x h => hts x (List.mem_cons_of_mem _ h)
  unfold fMX12_make_0_327 at hf
  refine lv_iload hx hb dX12_make_327 (lv_at hl 3 rfl) ?_
  refine lv_iload hx hb dX12_make_329 (lv_at hl 5 rfl) ?_
  refine lv_iadd hx hb dX12_make_331 ?_
  refine lv_istore (lv' := [(7, .int (x7 + x9)), (0, .ref (ka K 0)), (1, .int x1), (5, .int x5), (8, .int x8), (9, .int x9)]) hx hb dX12_make_332 hl (by decide) rfl (fun ls hl => ?_)
  refine lv_aload_n hx hb dX12_make_334 rfl (lv_at hl 1 rfl) ?_
  refine lv_iload hx hb dX12_make_335 (lv_at hl 0 rfl) ?_
  refine lv_iload hx hb dX12_make_337 (lv_at hl 3 rfl) ?_
  refine lv_iload hx hb dX12_make_339 (lv_at hl 4 rfl) ?_
  refine lv_aload_n hx hb dX12_make_341 rfl (lv_at hl 1 rfl) ?_
  refine gw_get (v := .ref (ka K 7)) F inc_X12 hW 0 10 16 (aM_0 K σ) rfl (by decide) (hG _ q_6_128) (fun _ h9 => h9) rfl dX12_make_342 ?_
  refine lv_iload hx hb dX12_make_345 (lv_at hl 3 rfl) ?_
  rcases Decidable.em (x5 < 0 ∨ 2100 ≤ x5.toNatClampNeg) with c43 | c43
  · replace hf := (if_pos c43).symm.trans hf
    exact absurd hf (by simp)
  · replace hf := (if_neg c43).symm.trans hf
    refine gw_iald F hW 7 6 (aM_7 K σ) rfl c43 dX12_make_347 ?_
    obtain ⟨o44, h45, hf⟩ := gw_bind hf
    refine gw_Vv (As := [.int (x7 + x9), .int x5, .int x8, .int (σ.2.1 6 x5.toNatClampNeg)]) (mc' := 0) (ms' := 0) F hW (mMX12_entry_0 h45) (cwV 4 hts (gT_V q_7_13 q_7_15 qp_40 q_1_12 q_7_16) rfl rfl rfl hdX12_entry ⟨Nat.le_of_ble_eq_true rfl, Nat.le_of_ble_eq_true rfl⟩) 0 10 (aM_0 K σ) rfl rfl hl.1 rfl (Nat.le_of_ble_eq_true rfl) dX12_make_348 ⟨Nat.le_of_ble_eq_true rfl, Nat.le_of_ble_eq_true rfl⟩ rfl rfl (fun H locs hW => ?_)
    exact wMX12_make_0_351 F x1 x5 (x7 + x9) _ _ hf _ _ _ (lv_sub hl [1, 2, 3, 0] rfl) hW
set_option maxHeartbeats 4000000 in
set_option maxRecDepth 100000 in
theorem wMX12_make_0_203 {p : Program} {l : Launch} {e : Env} {s : State} {m : MethodId} {args : Array Value} {below : List Frame} {meth : Method} {c : Code} {A : Nat → Prop} {K : KX} (F : fx_ p s m args meth c cX12_make 10 (some .int) RX12 wsX12_make) (x1 : Int32) (x4 : Int32) (x5 : Int32) (y0 : Int32) (y1 : Int32) (σ : XS) (o : (Int32 × XS)) (hf : fMX12_make_0_203 (kn K) x1 x4 x5 y0 y1 σ = some o) (H : Heap) (locs : List Loc) (ls : Array Slot) (hl : lv_has ls 10 [(0, .ref (ka K 0)), (1, .int x1), (4, .int x4), (5, .int x5)]) (hW : gw_ (kD K) vwCl (tyM K) (wM K) A s σ H locs) : W p l e rMX12_make_0 s m args below meth c H locs 0 0 (MQ below (gw_Qi (kD K) vwCl (tyM K) (wM K) A o) args s rMX12_make_0.cells rMX12_make_0.slots A) (F0 m 203 ls [.int y0, .int y1, .ref (ka K 9)]) := by
  have hx := F.1
  have hb := F.2.1
  have hml := F.2.2.2.1
  have hown := F.2.2.2.2.1
  have hts := F.2.2.2.2.2.1
  have hG : ∀ x ∈ gT, x.before args s = true := fun x h => hts x (List.mem_cons_of_mem _ h)
  unfold fMX12_make_0_203 at hf
  rcases Decidable.em (y1 < 0 ∨ 2100 ≤ y1.toNatClampNeg) with c30 | c30
  · replace hf := (if_pos c30).symm.trans hf
    exact absurd hf (by simp)
  · replace hf := (if_neg c30).symm.trans hf
    refine gw_iast (σ' := (stA σ 8 y1.toNatClampNeg y0)) F hW 9 8 (aM_9 K σ) rfl c30 dX12_make_203 (sAM_8 _ _ _) (fun H locs hW => ?_)
    refine lv_aload_n hx hb dX12_make_204 rfl (lv_at hl 0 rfl) ?_
    refine gw_get (v := .ref (ka K 16)) F inc_X12 hW 0 10 25 (aM_0 K (stA σ 8 y1.toNatClampNeg y0)) rfl (by decide) (hG _ q_6_137) (fun _ h9 => h9) rfl dX12_make_205 ?_
    refine lv_iload hx hb dX12_make_208 (lv_at hl 3 rfl) ?_
    refine lv_aload_n hx hb dX12_make_210 rfl (lv_at hl 0 rfl) ?_
    refine gw_get (v := .int (σ.1 9)) F inc_X12 hW 0 10 27 (aM_0 K (stA σ 8 y1.toNatClampNeg y0)) rfl (by decide) (hG _ q_6_139) (fun _ h9 => h9) rfl dX12_make_211 ?_
    rcases Decidable.em (x5 < 0 ∨ 2100 ≤ x5.toNatClampNeg) with c31 | c31
    · replace hf := (if_pos c31).symm.trans hf
      exact absurd hf (by simp)
    · replace hf := (if_neg c31).symm.trans hf
      refine gw_iast (σ' := (stA (stA σ 8 y1.toNatClampNeg y0) 15 x5.toNatClampNeg (σ.1 9))) F hW 16 15 (aM_16 K (stA σ 8 y1.toNatClampNeg y0)) rfl c31 dX12_make_214 (sAM_15 _ _ _) (fun H locs hW => ?_)
      refine lv_aload_n hx hb dX12_make_215 rfl (lv_at hl 0 rfl) ?_
      refine gw_get (v := .int (σ.1 10)) F inc_X12 hW 0 10 28 (aM_0 K (stA (stA σ 8 y1.toNatClampNeg y0) 15 x5.toNatClampNeg (σ.1 9))) rfl (by decide) (hG _ q_6_140) (fun _ h9 => h9) rfl dX12_make_216 ?_
      refine lv_istore (lv' := [(7, .int (σ.1 10)), (0, .ref (ka K 0)), (1, .int x1), (4, .int x4), (5, .int x5)]) hx hb dX12_make_219 hl (by decide) rfl (fun ls hl => ?_)
      refine lv_iload hx hb dX12_make_221 (lv_at hl 3 rfl) ?_
      refine lv_if_ne (tgt := 285) hx hb dX12_make_223 (by decide) (fun c32 => ?_) (fun c32 => ?_)
      · replace hf := (if_neg c32).symm.trans hf
        refine lv_aload_n hx hb dX12_make_285 rfl (lv_at hl 1 rfl) ?_
        refine lv_iload hx hb dX12_make_286 (lv_at hl 0 rfl) ?_
        refine lv_iconst (v := (4 : Int32)) hx hb dX12_make_288 (by decide) ?_
        refine lv_iadd hx hb dX12_make_289 ?_
        obtain ⟨o33, h34, hf⟩ := gw_bind hf
        refine gw_Vi (As := [.int ((σ.1 10) + (4 : Int32))]) (mc' := 0) (ms' := 0) F hW (mMX12_two_0 h34) (cwV 1 hts (gT_V q_7_103 q_7_105 qp_56 q_1_12 q_7_106) rfl rfl rfl hdX12_two ⟨Nat.le_of_ble_eq_true rfl, Nat.le_of_ble_eq_true rfl⟩) 0 10 (aM_0 K (stA (stA σ 8 y1.toNatClampNeg y0) 15 x5.toNatClampNeg (σ.1 9))) rfl rfl hl.1 rfl (Nat.le_of_ble_eq_true rfl) dX12_make_290 ⟨Nat.le_of_ble_eq_true rfl, Nat.le_of_ble_eq_true rfl⟩ rfl rfl (fun H locs hW => ?_)
        refine lv_aload_n hx hb dX12_make_293 rfl (lv_at hl 1 rfl) ?_
        refine lv_iload hx hb dX12_make_294 (lv_at hl 0 rfl) ?_
        obtain ⟨o36, h37, hf⟩ := gw_bind hf
        refine gw_Vi (As := [.int (σ.1 10)]) (mc' := 0) (ms' := 0) F hW (mMX12_uses_0 h37) (cwV 1 hts (gT_V q_7_156 q_7_158 qp_63 q_1_12 q_7_159) rfl rfl rfl hdX12_uses ⟨Nat.le_of_ble_eq_true rfl, Nat.le_of_ble_eq_true rfl⟩) 0 10 (aM_0 K o33.2) rfl rfl hl.1 rfl (Nat.le_of_ble_eq_true rfl) dX12_make_296 ⟨Nat.le_of_ble_eq_true rfl, Nat.le_of_ble_eq_true rfl⟩ rfl rfl (fun H locs hW => ?_)
        refine lv_isub hx hb dX12_make_299 ?_
        refine lv_istore (lv' := [(8, .int (o33.1 - o36.1)), (7, .int (σ.1 10)), (0, .ref (ka K 0)), (1, .int x1), (4, .int x4), (5, .int x5)]) hx hb dX12_make_300 hl (by decide) rfl (fun ls hl => ?_)
        refine lv_aload_n hx hb dX12_make_302 rfl (lv_at hl 2 rfl) ?_
        refine lv_iload hx hb dX12_make_303 (lv_at hl 1 rfl) ?_
        obtain ⟨o39, h40, hf⟩ := gw_bind hf
        refine gw_Vi (As := [.int (σ.1 10)]) (mc' := 0) (ms' := 0) F hW (mMX12_uses_0 h40) (cwV 1 hts (gT_V q_7_156 q_7_158 qp_63 q_1_12 q_7_159) rfl rfl rfl hdX12_uses ⟨Nat.le_of_ble_eq_true rfl, Nat.le_of_ble_eq_true rfl⟩) 0 10 (aM_0 K o36.2) rfl rfl hl.1 rfl (Nat.le_of_ble_eq_true rfl) dX12_make_305 ⟨Nat.le_of_ble_eq_true rfl, Nat.le_of_ble_eq_true rfl⟩ rfl rfl (fun H locs hW => ?_)
        refine lv_istore (lv' := [(9, .int o39.1), (8, .int (o33.1 - o36.1)), (7, .int (σ.1 10)), (0, .ref (ka K 0)), (1, .int x1), (4, .int x4), (5, .int x5)]) hx hb dX12_make_308 hl (by decide) rfl (fun ls hl => ?_)
        refine lv_iload hx hb dX12_make_310 (lv_at hl 5 rfl) ?_
        refine lv_iconst (v := (1 : Int32)) hx hb dX12_make_312 (by decide) ?_
        refine lv_icmp_ne (tgt := 327) hx hb dX12_make_313 (by decide) (fun c42 => ?_) (fun c42 => ?_)
        · replace hf := (if_neg c42).symm.trans hf
          exact wMX12_make_0_327 F x1 x5 (σ.1 10) (o33.1 - o36.1) o39.1 _ _ hf _ _ _ (lv_sub hl [3, 4, 6, 2, 1, 0] rfl) hW
        · replace hf := (if_pos c42).symm.trans hf
          refine lv_aload_n hx hb dX12_make_316 rfl (lv_at hl 3 rfl) ?_
          refine lv_iload hx hb dX12_make_317 (lv_at hl 2 rfl) ?_
          refine lv_iconst (v := (4 : Int32)) hx hb dX12_make_319 (by decide) ?_
          refine lv_iadd hx hb dX12_make_320 ?_
          refine lv_iconst (v := (2 : Int32)) hx hb dX12_make_321 (by decide) ?_
          refine lv_iload hx hb dX12_make_322 (lv_at hl 0 rfl) ?_
          obtain ⟨o58, h59, hf⟩ := gw_bind hf
          refine gw_Vv (As := [.int ((σ.1 10) + (4 : Int32)), .int (2 : Int32), .int o39.1]) (mc' := 0) (ms' := 0) F hW (mMX12_set_0 h59) (cwV 3 hts (gT_V q_7_17 q_7_19 qp_41 q_1_12 q_7_20) rfl rfl rfl hdX12_set ⟨Nat.le_of_ble_eq_true rfl, Nat.le_of_ble_eq_true rfl⟩) 0 10 (aM_0 K o39.2) rfl rfl hl.1 rfl (Nat.le_of_ble_eq_true rfl) dX12_make_324 ⟨Nat.le_of_ble_eq_true rfl, Nat.le_of_ble_eq_true rfl⟩ rfl rfl (fun H locs hW => ?_)
          exact wMX12_make_0_327 F x1 x5 (σ.1 10) (o33.1 - o36.1) o39.1 _ _ hf _ _ _ (lv_sub hl [3, 4, 6, 2, 1, 0] rfl) hW
      · replace hf := (if_pos c32).symm.trans hf
        refine lv_aload_n hx hb dX12_make_226 rfl (lv_at hl 1 rfl) ?_
        refine lv_aload_n hx hb dX12_make_227 rfl (lv_at hl 1 rfl) ?_
        refine gw_get (v := .int (σ.1 9)) F inc_X12 hW 0 10 27 (aM_0 K (stA (stA σ 8 y1.toNatClampNeg y0) 15 x5.toNatClampNeg (σ.1 9))) rfl (by decide) (hG _ q_6_139) (fun _ h9 => h9) rfl dX12_make_228 ?_
        obtain ⟨o61, h62, hf⟩ := gw_bind hf
        refine gw_Vv (As := [.int (σ.1 9)]) (mc' := 0) (ms' := 0) F hW (mMX12_gain_0 h62) (cwV 1 hts (gT_V q_7_5 q_7_7 qp_38 q_1_12 q_7_8) rfl rfl rfl hdX12_gain ⟨Nat.le_of_ble_eq_true rfl, Nat.le_of_ble_eq_true rfl⟩) 0 10 (aM_0 K (stA (stA σ 8 y1.toNatClampNeg y0) 15 x5.toNatClampNeg (σ.1 9))) rfl rfl hl.1 rfl (Nat.le_of_ble_eq_true rfl) dX12_make_231 ⟨Nat.le_of_ble_eq_true rfl, Nat.le_of_ble_eq_true rfl⟩ rfl rfl (fun H locs hW => ?_)
        refine lv_aload_n hx hb dX12_make_234 rfl (lv_at hl 1 rfl) ?_
        refine gw_get (v := .ref (ka K 8)) F inc_X12 hW 0 10 17 (aM_0 K o61) rfl (by decide) (hG _ q_6_129) (fun _ h9 => h9) rfl dX12_make_235 ?_
        refine lv_aload_n hx hb dX12_make_238 rfl (lv_at hl 1 rfl) ?_
        refine gw_get (v := .int (o61.1 9)) F inc_X12 hW 0 10 27 (aM_0 K o61) rfl (by decide) (hG _ q_6_139) (fun _ h9 => h9) rfl dX12_make_239 ?_
        refine lv_dup2_11 hx hb dX12_make_242 rfl rfl ?_
        rcases Decidable.em ((o61.1 9) < 0 ∨ 2100 ≤ (o61.1 9).toNatClampNeg) with c64 | c64
        · replace hf := (if_pos c64).symm.trans hf
          exact absurd hf (by simp)
        · replace hf := (if_neg c64).symm.trans hf
          refine gw_iald F hW 8 7 (aM_8 K o61) rfl c64 dX12_make_243 ?_
          refine lv_sipush (v := (1024 : Int32)) hx hb dX12_make_244 (by decide) ?_
          refine lv_iadd hx hb dX12_make_247 ?_
          rcases Decidable.em ((o61.1 9) < 0 ∨ 2100 ≤ (o61.1 9).toNatClampNeg) with c65 | c65
          · replace hf := (if_pos c65).symm.trans hf
            exact absurd hf (by simp)
          · replace hf := (if_neg c65).symm.trans hf
            refine gw_iast (σ' := (stA o61 7 (o61.1 9).toNatClampNeg ((o61.2.1 7 (o61.1 9).toNatClampNeg) + (1024 : Int32)))) F hW 8 7 (aM_8 K o61) rfl c65 dX12_make_248 (sAM_7 _ _ _) (fun H locs hW => ?_)
            refine lv_sipush (v := (1024 : Int32)) hx hb dX12_make_249 (by decide) ?_
            refine lv_aload_n hx hb dX12_make_252 rfl (lv_at hl 1 rfl) ?_
            refine gw_get (v := .ref (ka K 12)) F inc_X12 hW 0 10 21 (aM_0 K (stA o61 7 (o61.1 9).toNatClampNeg ((o61.2.1 7 (o61.1 9).toNatClampNeg) + (1024 : Int32)))) rfl (by decide) (hG _ q_6_133) (fun _ h9 => h9) rfl dX12_make_253 ?_
            refine lv_aload_n hx hb dX12_make_256 rfl (lv_at hl 1 rfl) ?_
            refine gw_get (v := .int (o61.1 9)) F inc_X12 hW 0 10 27 (aM_0 K (stA o61 7 (o61.1 9).toNatClampNeg ((o61.2.1 7 (o61.1 9).toNatClampNeg) + (1024 : Int32)))) rfl (by decide) (hG _ q_6_139) (fun _ h9 => h9) rfl dX12_make_257 ?_
            rcases Decidable.em ((o61.1 9) < 0 ∨ 2100 ≤ (o61.1 9).toNatClampNeg) with c66 | c66
            · replace hf := (if_pos c66).symm.trans hf
              exact absurd hf (by simp)
            · replace hf := (if_neg c66).symm.trans hf
              refine gw_iald F hW 12 11 (aM_12 K (stA o61 7 (o61.1 9).toNatClampNeg ((o61.2.1 7 (o61.1 9).toNatClampNeg) + (1024 : Int32)))) rfl c66 dX12_make_260 ?_
              refine lv_imul hx hb dX12_make_261 ?_
              refine lv_istore (lv' := [(7, .int ((1024 : Int32) * ((stA o61 7 (o61.1 9).toNatClampNeg ((o61.2.1 7 (o61.1 9).toNatClampNeg) + (1024 : Int32))).2.1 11 (o61.1 9).toNatClampNeg))), (0, .ref (ka K 0)), (1, .int x1), (4, .int x4), (5, .int x5)]) hx hb dX12_make_262 hl (by decide) rfl (fun ls hl => ?_)
              refine lv_aload_n hx hb dX12_make_264 rfl (lv_at hl 1 rfl) ?_
              refine lv_iload hx hb dX12_make_265 (lv_at hl 0 rfl) ?_
              refine lv_iload hx hb dX12_make_267 (lv_at hl 4 rfl) ?_
              refine lv_sipush (v := (1024 : Int32)) hx hb dX12_make_269 (by decide) ?_
              refine lv_aload_n hx hb dX12_make_272 rfl (lv_at hl 1 rfl) ?_
              refine gw_get (v := .ref (ka K 7)) F inc_X12 hW 0 10 16 (aM_0 K (stA o61 7 (o61.1 9).toNatClampNeg ((o61.2.1 7 (o61.1 9).toNatClampNeg) + (1024 : Int32)))) rfl (by decide) (hG _ q_6_128) (fun _ h9 => h9) rfl dX12_make_273 ?_
              refine lv_iload hx hb dX12_make_276 (lv_at hl 4 rfl) ?_
              rcases Decidable.em (x5 < 0 ∨ 2100 ≤ x5.toNatClampNeg) with c67 | c67
              · replace hf := (if_pos c67).symm.trans hf
                exact absurd hf (by simp)
              · replace hf := (if_neg c67).symm.trans hf
                refine gw_iald F hW 7 6 (aM_7 K (stA o61 7 (o61.1 9).toNatClampNeg ((o61.2.1 7 (o61.1 9).toNatClampNeg) + (1024 : Int32)))) rfl c67 dX12_make_278 ?_
                obtain ⟨o68, h69, hf⟩ := gw_bind hf
                refine gw_Vv (As := [.int ((1024 : Int32) * ((stA o61 7 (o61.1 9).toNatClampNeg ((o61.2.1 7 (o61.1 9).toNatClampNeg) + (1024 : Int32))).2.1 11 (o61.1 9).toNatClampNeg)), .int x5, .int (1024 : Int32), .int ((stA o61 7 (o61.1 9).toNatClampNeg ((o61.2.1 7 (o61.1 9).toNatClampNeg) + (1024 : Int32))).2.1 6 x5.toNatClampNeg)]) (mc' := 0) (ms' := 0) F hW (mMX12_entry_0 h69) (cwV 4 hts (gT_V q_7_13 q_7_15 qp_40 q_1_12 q_7_16) rfl rfl rfl hdX12_entry ⟨Nat.le_of_ble_eq_true rfl, Nat.le_of_ble_eq_true rfl⟩) 0 10 (aM_0 K (stA o61 7 (o61.1 9).toNatClampNeg ((o61.2.1 7 (o61.1 9).toNatClampNeg) + (1024 : Int32)))) rfl rfl hl.1 rfl (Nat.le_of_ble_eq_true rfl) dX12_make_279 ⟨Nat.le_of_ble_eq_true rfl, Nat.le_of_ble_eq_true rfl⟩ rfl rfl (fun H locs hW => ?_)
                refine lv_goto (tgt := 351) hx hb dX12_make_282 (by decide) ?_
                exact wMX12_make_0_351 F x1 x5 ((1024 : Int32) * ((stA o61 7 (o61.1 9).toNatClampNeg ((o61.2.1 7 (o61.1 9).toNatClampNeg) + (1024 : Int32))).2.1 11 (o61.1 9).toNatClampNeg)) _ _ hf _ _ _ (lv_sub hl [1, 2, 4, 0] rfl) hW
set_option maxHeartbeats 4000000 in
set_option maxRecDepth 100000 in
theorem wMX12_make_0_181 {p : Program} {l : Launch} {e : Env} {s : State} {m : MethodId} {args : Array Value} {below : List Frame} {meth : Method} {c : Code} {A : Nat → Prop} {K : KX} (F : fx_ p s m args meth c cX12_make 10 (some .int) RX12 wsX12_make) (x1 : Int32) (x4 : Int32) (x5 : Int32) (y0 : Int32) (y1 : Int32) (σ : XS) (o : (Int32 × XS)) (hf : fMX12_make_0_181 (kn K) x1 x4 x5 y0 y1 σ = some o) (H : Heap) (locs : List Loc) (ls : Array Slot) (hl : lv_has ls 10 [(0, .ref (ka K 0)), (1, .int x1), (4, .int x4), (5, .int x5)]) (hW : gw_ (kD K) vwCl (tyM K) (wM K) A s σ H locs) : W p l e rMX12_make_0 s m args below meth c H locs 0 0 (MQ below (gw_Qi (kD K) vwCl (tyM K) (wM K) A o) args s rMX12_make_0.cells rMX12_make_0.slots A) (F0 m 181 ls [.int y0, .int y1, .ref (ka K 7)]) := by
  have hx := F.1
  have hb := F.2.1
  have hml := F.2.2.2.1
  have hown := F.2.2.2.2.1
  have hts := F.2.2.2.2.2.1
  have hG : ∀ x ∈ gT, x.before args s = true := fun x h => hts x (List.mem_cons_of_mem _ h)
  unfold fMX12_make_0_181 at hf
  rcases Decidable.em (y1 < 0 ∨ 2100 ≤ y1.toNatClampNeg) with c25 | c25
  · replace hf := (if_pos c25).symm.trans hf
    exact absurd hf (by simp)
  · replace hf := (if_neg c25).symm.trans hf
    refine gw_iast (σ' := (stA σ 6 y1.toNatClampNeg y0)) F hW 7 6 (aM_7 K σ) rfl c25 dX12_make_181 (sAM_6 _ _ _) (fun H locs hW => ?_)
    refine lv_aload_n hx hb dX12_make_182 rfl (lv_at hl 0 rfl) ?_
    refine lv_iload hx hb dX12_make_183 (lv_at hl 3 rfl) ?_
    obtain ⟨o26, h27, hf⟩ := gw_bind hf
    refine gw_Vv (As := [.int x5]) (mc' := 0) (ms' := 0) F hW (mMX12_clear_0 h27) (cwV 1 hts (gT_V q_6_237 q_6_239 qp_36 q_1_12 q_7_0) rfl rfl rfl hdX12_clear ⟨Nat.le_of_ble_eq_true rfl, Nat.le_of_ble_eq_true rfl⟩) 0 10 (aM_0 K (stA σ 6 y1.toNatClampNeg y0)) rfl rfl hl.1 rfl (Nat.le_of_ble_eq_true rfl) dX12_make_185 ⟨Nat.le_of_ble_eq_true rfl, Nat.le_of_ble_eq_true rfl⟩ rfl rfl (fun H locs hW => ?_)
    refine lv_aload_n hx hb dX12_make_188 rfl (lv_at hl 0 rfl) ?_
    refine gw_get (v := .ref (ka K 9)) F inc_X12 hW 0 10 18 (aM_0 K o26) rfl (by decide) (hG _ q_6_130) (fun _ h9 => h9) rfl dX12_make_189 ?_
    refine lv_iload hx hb dX12_make_192 (lv_at hl 3 rfl) ?_
    refine lv_iload_n hx hb dX12_make_194 rfl (lv_at hl 1 rfl) ?_
    refine lv_if_eq (tgt := 202) hx hb dX12_make_195 (by decide) (fun c29 => ?_) (fun c29 => ?_)
    · replace hf := (if_pos c29).symm.trans hf
      refine lv_iconst (v := (1 : Int32)) hx hb dX12_make_202 (by decide) ?_
      exact wMX12_make_0_203 F x1 x4 x5 (1 : Int32) x5 _ _ hf _ _ _ (lv_sub hl [0, 1, 2, 3] rfl) hW
    · replace hf := (if_neg c29).symm.trans hf
      refine lv_iconst (v := (2 : Int32)) hx hb dX12_make_198 (by decide) ?_
      refine lv_goto (tgt := 203) hx hb dX12_make_199 (by decide) ?_
      exact wMX12_make_0_203 F x1 x4 x5 (2 : Int32) x5 _ _ hf _ _ _ (lv_sub hl [0, 1, 2, 3] rfl) hW
set_option maxHeartbeats 4000000 in
set_option maxRecDepth 100000 in
theorem wMX12_make_0_157 {p : Program} {l : Launch} {e : Env} {s : State} {m : MethodId} {args : Array Value} {below : List Frame} {meth : Method} {c : Code} {A : Nat → Prop} {K : KX} (F : fx_ p s m args meth c cX12_make 10 (some .int) RX12 wsX12_make) (x1 : Int32) (x4 : Int32) (x5 : Int32) (y0 : Int32) (σ : XS) (o : (Int32 × XS)) (hf : fMX12_make_0_157 (kn K) x1 x4 x5 y0 σ = some o) (H : Heap) (locs : List Loc) (ls : Array Slot) (hl : lv_has ls 10 [(0, .ref (ka K 0)), (1, .int x1), (4, .int x4), (5, .int x5)]) (hW : gw_ (kD K) vwCl (tyM K) (wM K) A s σ H locs) : W p l e rMX12_make_0 s m args below meth c H locs 0 0 (MQ below (gw_Qi (kD K) vwCl (tyM K) (wM K) A o) args s rMX12_make_0.cells rMX12_make_0.slots A) (F0 m 157 ls [.int y0, .ref (ka K 0)]) := by
  have hx := F.1
  have hb := F.2.1
  have hml := F.2.2.2.1
  have hown := F.2.2.2.2.1
  have hts := F.2.2.2.2.2.1
  have hG : ∀ x ∈ gT, x.before args s = true := fun x h => hts x (List.mem_cons_of_mem _ h)
  unfold fMX12_make_0_157 at hf
  refine lv_iconst (v := (3 : Int32)) hx hb dX12_make_157 (by decide) ?_
  obtain ⟨o20, h21, hf⟩ := gw_bind hf
  refine gw_Vz (As := [.int y0, .int (3 : Int32)]) (mc' := 0) (ms' := 0) F hW (mMX12_fails_0 h21) (cwV 2 hts (gT_V q_7_87 q_7_89 qp_52 q_1_12 q_7_90) rfl rfl rfl hdX12_fails ⟨Nat.le_of_ble_eq_true rfl, Nat.le_of_ble_eq_true rfl⟩) 0 10 (aM_0 K σ) rfl rfl hl.1 rfl (Nat.le_of_ble_eq_true rfl) dX12_make_158 ⟨Nat.le_of_ble_eq_true rfl, Nat.le_of_ble_eq_true rfl⟩ rfl rfl (fun H locs z22 hW => ?_)
  refine lv_if_eq (tgt := 166) hx hb dX12_make_161 (by decide) (fun c23 => ?_) (fun c23 => ?_)
  · replace hf := (if_pos c23).symm.trans hf
    refine lv_aload_n hx hb dX12_make_166 rfl (lv_at hl 0 rfl) ?_
    refine gw_get (v := .ref (ka K 7)) F inc_X12 hW 0 10 16 (aM_0 K o20.2) rfl (by decide) (hG _ q_6_128) (fun _ h9 => h9) rfl dX12_make_167 ?_
    refine lv_iload hx hb dX12_make_170 (lv_at hl 3 rfl) ?_
    refine lv_iload_n hx hb dX12_make_172 rfl (lv_at hl 1 rfl) ?_
    refine lv_if_eq (tgt := 180) hx hb dX12_make_173 (by decide) (fun c24 => ?_) (fun c24 => ?_)
    · replace hf := (if_pos c24).symm.trans hf
      refine lv_iconst (v := (1 : Int32)) hx hb dX12_make_180 (by decide) ?_
      exact wMX12_make_0_181 F x1 x4 x5 (1 : Int32) x5 _ _ hf _ _ _ (lv_sub hl [0, 1, 2, 3] rfl) hW
    · replace hf := (if_neg c24).symm.trans hf
      refine lv_iconst (v := (2 : Int32)) hx hb dX12_make_176 (by decide) ?_
      refine lv_goto (tgt := 181) hx hb dX12_make_177 (by decide) ?_
      exact wMX12_make_0_181 F x1 x4 x5 (2 : Int32) x5 _ _ hf _ _ _ (lv_sub hl [0, 1, 2, 3] rfl) hW
  · replace hf := (if_neg c23).symm.trans hf
    refine lv_iconst (v := (0 : Int32)) hx hb dX12_make_164 (by decide) ?_
    exact gw_reti F hW hf dX12_make_165
set_option maxHeartbeats 4000000 in
set_option maxRecDepth 100000 in
theorem wMX12_make_0_152 {p : Program} {l : Launch} {e : Env} {s : State} {m : MethodId} {args : Array Value} {below : List Frame} {meth : Method} {c : Code} {A : Nat → Prop} {K : KX} (F : fx_ p s m args meth c cX12_make 10 (some .int) RX12 wsX12_make) (x1 : Int32) (x4 : Int32) (x5 : Int32) (σ : XS) (o : (Int32 × XS)) (hf : fMX12_make_0_152 (kn K) x1 x4 x5 σ = some o) (H : Heap) (locs : List Loc) (ls : Array Slot) (hl : lv_has ls 10 [(0, .ref (ka K 0)), (1, .int x1), (4, .int x4), (5, .int x5)]) (hW : gw_ (kD K) vwCl (tyM K) (wM K) A s σ H locs) : W p l e rMX12_make_0 s m args below meth c H locs 0 0 (MQ below (gw_Qi (kD K) vwCl (tyM K) (wM K) A o) args s rMX12_make_0.cells rMX12_make_0.slots A) (F0 m 152 ls [.ref (ka K 0)]) := by
  have hx := F.1
  have hb := F.2.1
  have hml := F.2.2.2.1
  have hown := F.2.2.2.2.1
  have hts := F.2.2.2.2.2.1
  have hG : ∀ x ∈ gT, x.before args s = true := fun x h => hts x (List.mem_cons_of_mem _ h)
  unfold fMX12_make_0_152 at hf
  refine lv_iconst (v := (1 : Int32)) hx hb dX12_make_152 (by decide) ?_
  refine lv_goto (tgt := 157) hx hb dX12_make_153 (by decide) ?_
  exact wMX12_make_0_157 F x1 x4 x5 (1 : Int32) _ _ hf _ _ _ (lv_sub hl [0, 1, 2, 3] rfl) hW
set_option maxHeartbeats 4000000 in
set_option maxRecDepth 100000 in
theorem wMX12_make_0_125 {p : Program} {l : Launch} {e : Env} {s : State} {m : MethodId} {args : Array Value} {below : List Frame} {meth : Method} {c : Code} {A : Nat → Prop} {K : KX} (F : fx_ p s m args meth c cX12_make 10 (some .int) RX12 wsX12_make) (x1 : Int32) (x4 : Int32) (x5 : Int32) (y0 : Int32) (y1 : Int32) (σ : XS) (o : (Int32 × XS)) (hf : fMX12_make_0_125 (kn K) x1 x4 x5 y0 y1 σ = some o) (H : Heap) (locs : List Loc) (ls : Array Slot) (hl : lv_has ls 10 [(0, .ref (ka K 0)), (1, .int x1), (4, .int x4), (5, .int x5)]) (hW : gw_ (kD K) vwCl (tyM K) (wM K) A s σ H locs) : W p l e rMX12_make_0 s m args below meth c H locs 0 0 (MQ below (gw_Qi (kD K) vwCl (tyM K) (wM K) A o) args s rMX12_make_0.cells rMX12_make_0.slots A) (F0 m 125 ls [.int y0, .int y1]) := by
  have hx := F.1
  have hb := F.2.1
  have hml := F.2.2.2.1
  have hown := F.2.2.2.2.1
  have hts := F.2.2.2.2.2.1
  have hG : ∀ x ∈ gT, x.before args s = true := fun x h => hts x (List.mem_cons_of_mem _ h)
  unfold fMX12_make_0_125 at hf
  refine lv_iadd hx hb dX12_make_125 ?_
  refine lv_istore (lv' := [(6, .int (y1 + y0)), (0, .ref (ka K 0)), (1, .int x1), (4, .int x4), (5, .int x5)]) hx hb dX12_make_126 hl (by decide) rfl (fun ls hl => ?_)
  refine lv_aload_n hx hb dX12_make_128 rfl (lv_at hl 1 rfl) ?_
  refine lv_iload hx hb dX12_make_129 (lv_at hl 4 rfl) ?_
  refine lv_aload_n hx hb dX12_make_131 rfl (lv_at hl 1 rfl) ?_
  refine gw_get (v := .int (σ.1 7)) F inc_X12 hW 0 10 12 (aM_0 K σ) rfl (by decide) (hG _ q_6_124) (fun _ h9 => h9) rfl dX12_make_132 ?_
  refine lv_aload_n hx hb dX12_make_135 rfl (lv_at hl 1 rfl) ?_
  refine gw_get (v := .int (σ.1 5)) F inc_X12 hW 0 10 10 (aM_0 K σ) rfl (by decide) (hG _ q_6_122) (fun _ h9 => h9) rfl dX12_make_136 ?_
  refine lv_imul hx hb dX12_make_139 ?_
  refine lv_icmp_gt (tgt := 152) hx hb dX12_make_140 (by decide) (fun c19 => ?_) (fun c19 => ?_)
  · replace hf := (if_pos c19).symm.trans hf
    exact wMX12_make_0_152 F x1 x4 x5 _ _ hf _ _ _ (lv_sub hl [1, 2, 3, 4] rfl) hW
  · replace hf := (if_neg c19).symm.trans hf
    refine lv_iload hx hb dX12_make_143 (lv_at hl 0 rfl) ?_
    refine lv_aload_n hx hb dX12_make_145 rfl (lv_at hl 1 rfl) ?_
    obtain ⟨o71, h72, hf⟩ := gw_bind hf
    refine gw_Vi (As := []) (mc' := 0) (ms' := 0) F hW (mMX12_freeBlocks_0 h72) (cwV 0 hts (gT_V q_7_21 q_7_23 qp_42 q_1_12 q_7_24) rfl rfl rfl hdX12_freeBlocks ⟨Nat.le_of_ble_eq_true rfl, Nat.le_of_ble_eq_true rfl⟩) 0 10 (aM_0 K σ) rfl rfl hl.1 rfl (Nat.le_of_ble_eq_true rfl) dX12_make_146 ⟨Nat.le_of_ble_eq_true rfl, Nat.le_of_ble_eq_true rfl⟩ rfl rfl (fun H locs hW => ?_)
    refine lv_icmp_le (tgt := 156) hx hb dX12_make_149 (by decide) (fun c74 => ?_) (fun c74 => ?_)
    · replace hf := (if_pos c74).symm.trans hf
      refine lv_iconst (v := (0 : Int32)) hx hb dX12_make_156 (by decide) ?_
      exact wMX12_make_0_157 F x1 x4 x5 (0 : Int32) _ _ hf _ _ _ (lv_sub hl [1, 2, 3, 4] rfl) hW
    · replace hf := (if_neg c74).symm.trans hf
      exact wMX12_make_0_152 F x1 x4 x5 _ _ hf _ _ _ (lv_sub hl [1, 2, 3, 4] rfl) hW
set_option maxHeartbeats 4000000 in
set_option maxRecDepth 100000 in
theorem wMX12_make_0_116 {p : Program} {l : Launch} {e : Env} {s : State} {m : MethodId} {args : Array Value} {below : List Frame} {meth : Method} {c : Code} {A : Nat → Prop} {K : KX} (F : fx_ p s m args meth c cX12_make 10 (some .int) RX12 wsX12_make) (x1 : Int32) (x4 : Int32) (x5 : Int32) (y0 : Int32) (σ : XS) (o : (Int32 × XS)) (hf : fMX12_make_0_116 (kn K) x1 x4 x5 y0 σ = some o) (H : Heap) (locs : List Loc) (ls : Array Slot) (hl : lv_has ls 10 [(0, .ref (ka K 0)), (1, .int x1), (4, .int x4), (5, .int x5)]) (hW : gw_ (kD K) vwCl (tyM K) (wM K) A s σ H locs) : W p l e rMX12_make_0 s m args below meth c H locs 0 0 (MQ below (gw_Qi (kD K) vwCl (tyM K) (wM K) A o) args s rMX12_make_0.cells rMX12_make_0.slots A) (F0 m 116 ls [.int y0]) := by
  have hx := F.1
  have hb := F.2.1
  have hml := F.2.2.2.1
  have hown := F.2.2.2.2.1
  have hts := F.2.2.2.2.2.1
  have hG : ∀ x ∈ gT, x.before args s = true := fun x h => hts x (List.mem_cons_of_mem _ h)
  unfold fMX12_make_0_116 at hf
  refine lv_iload_n hx hb dX12_make_116 rfl (lv_at hl 1 rfl) ?_
  refine lv_if_eq (tgt := 124) hx hb dX12_make_117 (by decide) (fun c18 => ?_) (fun c18 => ?_)
  · replace hf := (if_pos c18).symm.trans hf
    refine lv_iconst (v := (0 : Int32)) hx hb dX12_make_124 (by decide) ?_
    exact wMX12_make_0_125 F x1 x4 x5 (0 : Int32) y0 _ _ hf _ _ _ (lv_sub hl [0, 1, 2, 3] rfl) hW
  · replace hf := (if_neg c18).symm.trans hf
    refine lv_iconst (v := (1 : Int32)) hx hb dX12_make_120 (by decide) ?_
    refine lv_goto (tgt := 125) hx hb dX12_make_121 (by decide) ?_
    exact wMX12_make_0_125 F x1 x4 x5 (1 : Int32) y0 _ _ hf _ _ _ (lv_sub hl [0, 1, 2, 3] rfl) hW
set_option maxHeartbeats 4000000 in
set_option maxRecDepth 100000 in
theorem wMX12_make_0_80 {p : Program} {l : Launch} {e : Env} {s : State} {m : MethodId} {args : Array Value} {below : List Frame} {meth : Method} {c : Code} {A : Nat → Prop} {K : KX} (F : fx_ p s m args meth c cX12_make 10 (some .int) RX12 wsX12_make) (x1 : Int32) (x4 : Int32) (x5 : Int32) (σ : XS) (o : (Int32 × XS)) (hf : fMX12_make_0_80 (kn K) x1 x4 x5 σ = some o) (H : Heap) (locs : List Loc) (ls : Array Slot) (hl : lv_has ls 10 [(0, .ref (ka K 0)), (1, .int x1), (4, .int x4), (5, .int x5)]) (hW : gw_ (kD K) vwCl (tyM K) (wM K) A s σ H locs) : W p l e rMX12_make_0 s m args below meth c H locs 0 0 (MQ below (gw_Qi (kD K) vwCl (tyM K) (wM K) A o) args s rMX12_make_0.cells rMX12_make_0.slots A) (F0 m 80 ls []) := by
  have hx := F.1
  have hb := F.2.1
  have hml := F.2.2.2.1
  have hown := F.2.2.2.2.1
  have hts := F.2.2.2.2.2.1
  have hG : ∀ x ∈ gT, x.before args s = true := fun x h => hts x (List.mem_cons_of_mem _ h)
  unfold fMX12_make_0_80 at hf
  refine lv_iload hx hb dX12_make_80 (lv_at hl 2 rfl) ?_
  refine lv_if_ne (tgt := 115) hx hb dX12_make_82 (by decide) (fun c17 => ?_) (fun c17 => ?_)
  · replace hf := (if_neg c17).symm.trans hf
    refine lv_iconst (v := (0 : Int32)) hx hb dX12_make_115 (by decide) ?_
    exact wMX12_make_0_116 F x1 x4 x5 (0 : Int32) _ _ hf _ _ _ (lv_sub hl [0, 1, 2, 3] rfl) hW
  · replace hf := (if_pos c17).symm.trans hf
    refine lv_aload_n hx hb dX12_make_85 rfl (lv_at hl 0 rfl) ?_
    refine gw_get (v := .ref (ka K 10)) F inc_X12 hW 0 10 19 (aM_0 K σ) rfl (by decide) (hG _ q_6_131) (fun _ h9 => h9) rfl dX12_make_86 ?_
    refine lv_aload_n hx hb dX12_make_89 rfl (lv_at hl 0 rfl) ?_
    refine gw_get (v := .int (σ.1 9)) F inc_X12 hW 0 10 27 (aM_0 K σ) rfl (by decide) (hG _ q_6_139) (fun _ h9 => h9) rfl dX12_make_90 ?_
    rcases Decidable.em ((σ.1 9) < 0 ∨ 2100 ≤ (σ.1 9).toNatClampNeg) with c75 | c75
    · replace hf := (if_pos c75).symm.trans hf
      exact absurd hf (by simp)
    · replace hf := (if_neg c75).symm.trans hf
      refine gw_iald F hW 10 9 (aM_10 K σ) rfl c75 dX12_make_93 ?_
      refine lv_iconst (v := (1 : Int32)) hx hb dX12_make_94 (by decide) ?_
      refine lv_iadd hx hb dX12_make_95 ?_
      obtain ⟨o76, h77, hf⟩ := gw_bind hf
      refine gw_Si (As := [.int ((σ.2.1 9 (σ.1 9).toNatClampNeg) + (1 : Int32))]) (mc' := 0) (ms' := 0) F hW (mMX12_all h77) (va_cwS 1 hts (gT_S q_7_68 q_7_69 q_1_12 q_7_70) rfl rfl rfl hdX12_all.2 ⟨Nat.le_of_ble_eq_true rfl, Nat.le_of_ble_eq_true rfl⟩) rfl hl.1 rfl (Nat.le_of_ble_eq_true rfl) dX12_make_96 ⟨Nat.le_of_ble_eq_true rfl, Nat.le_of_ble_eq_true rfl⟩ rfl rfl (fun H locs hW => ?_)
      refine lv_aload_n hx hb dX12_make_99 rfl (lv_at hl 0 rfl) ?_
      refine gw_get (v := .ref (ka K 10)) F inc_X12 hW 0 10 19 (aM_0 K o76.2) rfl (by decide) (hG _ q_6_131) (fun _ h9 => h9) rfl dX12_make_100 ?_
      refine lv_aload_n hx hb dX12_make_103 rfl (lv_at hl 0 rfl) ?_
      refine gw_get (v := .int (o76.2.1 9)) F inc_X12 hW 0 10 27 (aM_0 K o76.2) rfl (by decide) (hG _ q_6_139) (fun _ h9 => h9) rfl dX12_make_104 ?_
      rcases Decidable.em ((o76.2.1 9) < 0 ∨ 2100 ≤ (o76.2.1 9).toNatClampNeg) with c79 | c79
      · replace hf := (if_pos c79).symm.trans hf
        exact absurd hf (by simp)
      · replace hf := (if_neg c79).symm.trans hf
        refine gw_iald F hW 10 9 (aM_10 K o76.2) rfl c79 dX12_make_107 ?_
        obtain ⟨o80, h81, hf⟩ := gw_bind hf
        refine gw_Si (As := [.int (o76.2.2.1 9 (o76.2.1 9).toNatClampNeg)]) (mc' := 0) (ms' := 0) F hW (mMX12_all h81) (va_cwS 1 hts (gT_S q_7_68 q_7_69 q_1_12 q_7_70) rfl rfl rfl hdX12_all.2 ⟨Nat.le_of_ble_eq_true rfl, Nat.le_of_ble_eq_true rfl⟩) rfl hl.1 rfl (Nat.le_of_ble_eq_true rfl) dX12_make_108 ⟨Nat.le_of_ble_eq_true rfl, Nat.le_of_ble_eq_true rfl⟩ rfl rfl (fun H locs hW => ?_)
        refine lv_isub hx hb dX12_make_111 ?_
        refine lv_goto (tgt := 116) hx hb dX12_make_112 (by decide) ?_
        exact wMX12_make_0_116 F x1 x4 x5 (o76.1 - o80.1) _ _ hf _ _ _ (lv_sub hl [0, 1, 2, 3] rfl) hW
set_option maxHeartbeats 4000000 in
set_option maxRecDepth 100000 in
theorem wMX12_make_0_50 {p : Program} {l : Launch} {e : Env} {s : State} {m : MethodId} {args : Array Value} {below : List Frame} {meth : Method} {c : Code} {A : Nat → Prop} {K : KX} (F : fx_ p s m args meth c cX12_make 10 (some .int) RX12 wsX12_make) {k50 : (Int32 × Int32 × Int32 × XS) → Option (Int32 × XS)} (hk50 : ∀ t o, k50 t = some o → PMX12_make_0_50 p l e s m args below meth c A K t o) (x1 : Int32) (x4 : Int32) (x5 : Int32) (σ : XS) (o : (Int32 × XS)) (hf : fMX12_make_0_50 (kn K) k50 x1 x4 x5 σ = some o) (H : Heap) (locs : List Loc) (ls : Array Slot) (hl : lv_has ls 10 [(0, .ref (ka K 0)), (1, .int x1), (4, .int x4), (5, .int x5)]) (hW : gw_ (kD K) vwCl (tyM K) (wM K) A s σ H locs) : W p l e rMX12_make_0 s m args below meth c H locs 0 0 (MQ below (gw_Qi (kD K) vwCl (tyM K) (wM K) A o) args s rMX12_make_0.cells rMX12_make_0.slots A) (F0 m 50 ls []) := by
  have hx := F.1
  have hb := F.2.1
  have hml := F.2.2.2.1
  have hown := F.2.2.2.2.1
  have hts := F.2.2.2.2.2.1
  have hG : ∀ x ∈ gT, x.before args s = true := fun x h => hts x (List.mem_cons_of_mem _ h)
  unfold fMX12_make_0_50 at hf
  refine lv_iload hx hb dX12_make_50 (lv_at hl 3 rfl) ?_
  refine lv_aload_n hx hb dX12_make_52 rfl (lv_at hl 0 rfl) ?_
  refine gw_get (v := .int (σ.1 7)) F inc_X12 hW 0 10 12 (aM_0 K σ) rfl (by decide) (hG _ q_6_124) (fun _ h9 => h9) rfl dX12_make_53 ?_
  refine lv_aload_n hx hb dX12_make_56 rfl (lv_at hl 0 rfl) ?_
  refine gw_get (v := .int (σ.1 5)) F inc_X12 hW 0 10 10 (aM_0 K σ) rfl (by decide) (hG _ q_6_122) (fun _ h9 => h9) rfl dX12_make_57 ?_
  refine lv_imul hx hb dX12_make_60 ?_
  refine lv_icmp_gt (tgt := 80) hx hb dX12_make_61 (by decide) (fun c16 => ?_) (fun c16 => ?_)
  · replace hf := (if_pos c16).symm.trans hf
    exact wMX12_make_0_80 F x1 x4 x5 _ _ hf _ _ _ (lv_sub hl [0, 1, 2, 3] rfl) hW
  · replace hf := (if_neg c16).symm.trans hf
    refine lv_aload_n hx hb dX12_make_64 rfl (lv_at hl 0 rfl) ?_
    refine gw_get (v := .ref (ka K 7)) F inc_X12 hW 0 10 16 (aM_0 K σ) rfl (by decide) (hG _ q_6_128) (fun _ h9 => h9) rfl dX12_make_65 ?_
    refine lv_iload hx hb dX12_make_68 (lv_at hl 3 rfl) ?_
    rcases Decidable.em (x5 < 0 ∨ 2100 ≤ x5.toNatClampNeg) with c83 | c83
    · replace hf := (if_pos c83).symm.trans hf
      exact absurd hf (by simp)
    · replace hf := (if_neg c83).symm.trans hf
      refine gw_iald F hW 7 6 (aM_7 K σ) rfl c83 dX12_make_70 ?_
      refine lv_if_eq (tgt := 80) hx hb dX12_make_71 (by decide) (fun c84 => ?_) (fun c84 => ?_)
      · replace hf := (if_pos c84).symm.trans hf
        exact wMX12_make_0_80 F x1 x4 x5 _ _ hf _ _ _ (lv_sub hl [0, 1, 2, 3] rfl) hW
      · replace hf := (if_neg c84).symm.trans hf
        refine lv_iinc (v := (x5 + (1 : Int32))) (lv' := [(5, .int (x5 + (1 : Int32))), (0, .ref (ka K 0)), (1, .int x1), (4, .int x4)]) hx hb dX12_make_74 hl (k := 3) rfl rfl (by decide) rfl (fun ls hl => ?_)
        refine lv_goto (tgt := 50) hx hb dX12_make_77 (by decide) ?_
        exact hk50 _ _ hf _ _ _ (lv_sub hl [1, 2, 3, 0] rfl) hW
set_option maxHeartbeats 4000000 in
set_option maxRecDepth 100000 in
theorem wMX12_make_0_31 {p : Program} {l : Launch} {e : Env} {s : State} {m : MethodId} {args : Array Value} {below : List Frame} {meth : Method} {c : Code} {A : Nat → Prop} {K : KX} (F : fx_ p s m args meth c cX12_make 10 (some .int) RX12 wsX12_make) (x1 : Int32) (y0 : Int32) (σ : XS) (o : (Int32 × XS)) (hf : fMX12_make_0_31 (kn K) x1 y0 σ = some o) (H : Heap) (locs : List Loc) (ls : Array Slot) (hl : lv_has ls 10 [(0, .ref (ka K 0)), (1, .int x1)]) (hW : gw_ (kD K) vwCl (tyM K) (wM K) A s σ H locs) : W p l e rMX12_make_0 s m args below meth c H locs 0 0 (MQ below (gw_Qi (kD K) vwCl (tyM K) (wM K) A o) args s rMX12_make_0.cells rMX12_make_0.slots A) (F0 m 31 ls [.int y0, .ref (ka K 0)]) := by
  have hx := F.1
  have hb := F.2.1
  have hml := F.2.2.2.1
  have hown := F.2.2.2.2.1
  have hts := F.2.2.2.2.2.1
  have hG : ∀ x ∈ gT, x.before args s = true := fun x h => hts x (List.mem_cons_of_mem _ h)
  unfold fMX12_make_0_31 at hf
  refine lv_iconst (v := (2 : Int32)) hx hb dX12_make_31 (by decide) ?_
  obtain ⟨o9, h10, hf⟩ := gw_bind hf
  refine gw_Vz (As := [.int y0, .int (2 : Int32)]) (mc' := 0) (ms' := 0) F hW (mMX12_fails_0 h10) (cwV 2 hts (gT_V q_7_87 q_7_89 qp_52 q_1_12 q_7_90) rfl rfl rfl hdX12_fails ⟨Nat.le_of_ble_eq_true rfl, Nat.le_of_ble_eq_true rfl⟩) 0 10 (aM_0 K σ) rfl rfl hl.1 rfl (Nat.le_of_ble_eq_true rfl) dX12_make_32 ⟨Nat.le_of_ble_eq_true rfl, Nat.le_of_ble_eq_true rfl⟩ rfl rfl (fun H locs z11 hW => ?_)
  refine lv_if_eq (tgt := 40) hx hb dX12_make_35 (by decide) (fun c12 => ?_) (fun c12 => ?_)
  · replace hf := (if_pos c12).symm.trans hf
    refine lv_aload_n hx hb dX12_make_40 rfl (lv_at hl 0 rfl) ?_
    obtain ⟨o13, h14, hf⟩ := gw_bind hf
    refine gw_Vi (As := []) (mc' := 0) (ms' := 0) F hW (mMX12_spot_0 h14) (cwV 0 hts (gT_V q_7_152 q_7_154 qp_62 q_1_12 q_7_155) rfl rfl rfl hdX12_spot ⟨Nat.le_of_ble_eq_true rfl, Nat.le_of_ble_eq_true rfl⟩) 0 10 (aM_0 K o9.2) rfl rfl hl.1 rfl (Nat.le_of_ble_eq_true rfl) dX12_make_41 ⟨Nat.le_of_ble_eq_true rfl, Nat.le_of_ble_eq_true rfl⟩ rfl rfl (fun H locs hW => ?_)
    refine lv_istore (lv' := [(4, .int o13.1), (0, .ref (ka K 0)), (1, .int x1)]) hx hb dX12_make_44 hl (by decide) rfl (fun ls hl => ?_)
    refine lv_bipush (v := (12 : Int32)) hx hb dX12_make_46 (by decide) ?_
    refine lv_istore (lv' := [(5, .int (12 : Int32)), (4, .int o13.1), (0, .ref (ka K 0)), (1, .int x1)]) hx hb dX12_make_48 hl (by decide) rfl (fun ls hl => ?_)
    exact lfix_ind (P := PMX12_make_0_50 p l e s m args below meth c A K) (fun k50 hk50 t o hf => wMX12_make_0_50 F hk50 t.1 t.2.1 t.2.2.1 t.2.2.2 o hf) FU _ _ hf _ _ _ (lv_sub hl [2, 3, 1, 0] rfl) hW
  · replace hf := (if_neg c12).symm.trans hf
    refine lv_iconst (v := (0 : Int32)) hx hb dX12_make_38 (by decide) ?_
    exact gw_reti F hW hf dX12_make_39
set_option maxHeartbeats 4000000 in
set_option maxRecDepth 100000 in
theorem wMX12_make_0_26 {p : Program} {l : Launch} {e : Env} {s : State} {m : MethodId} {args : Array Value} {below : List Frame} {meth : Method} {c : Code} {A : Nat → Prop} {K : KX} (F : fx_ p s m args meth c cX12_make 10 (some .int) RX12 wsX12_make) (x1 : Int32) (σ : XS) (o : (Int32 × XS)) (hf : fMX12_make_0_26 (kn K) x1 σ = some o) (H : Heap) (locs : List Loc) (ls : Array Slot) (hl : lv_has ls 10 [(0, .ref (ka K 0)), (1, .int x1)]) (hW : gw_ (kD K) vwCl (tyM K) (wM K) A s σ H locs) : W p l e rMX12_make_0 s m args below meth c H locs 0 0 (MQ below (gw_Qi (kD K) vwCl (tyM K) (wM K) A o) args s rMX12_make_0.cells rMX12_make_0.slots A) (F0 m 26 ls [.ref (ka K 0)]) := by
  have hx := F.1
  have hb := F.2.1
  have hml := F.2.2.2.1
  have hown := F.2.2.2.2.1
  have hts := F.2.2.2.2.2.1
  have hG : ∀ x ∈ gT, x.before args s = true := fun x h => hts x (List.mem_cons_of_mem _ h)
  unfold fMX12_make_0_26 at hf
  refine lv_iconst (v := (1 : Int32)) hx hb dX12_make_26 (by decide) ?_
  refine lv_goto (tgt := 31) hx hb dX12_make_27 (by decide) ?_
  exact wMX12_make_0_31 F x1 (1 : Int32) _ _ hf _ _ _ (lv_sub hl [0, 1] rfl) hW
set_option maxHeartbeats 4000000 in
set_option maxRecDepth 100000 in
theorem wMX12_make_0_0 {p : Program} {l : Launch} {e : Env} {s : State} {m : MethodId} {args : Array Value} {below : List Frame} {meth : Method} {c : Code} {A : Nat → Prop} {K : KX} (F : fx_ p s m args meth c cX12_make 10 (some .int) RX12 wsX12_make) (x1 : Int32) (σ : XS) (o : (Int32 × XS)) (hf : fMX12_make_0_0 (kn K) x1 σ = some o) (H : Heap) (locs : List Loc) (ls : Array Slot) (hl : lv_has ls 10 [(0, .ref (ka K 0)), (1, .int x1)]) (hW : gw_ (kD K) vwCl (tyM K) (wM K) A s σ H locs) : W p l e rMX12_make_0 s m args below meth c H locs 0 0 (MQ below (gw_Qi (kD K) vwCl (tyM K) (wM K) A o) args s rMX12_make_0.cells rMX12_make_0.slots A) (F0 m 0 ls []) := by
  have hx := F.1
  have hb := F.2.1
  have hml := F.2.2.2.1
  have hown := F.2.2.2.2.1
  have hts := F.2.2.2.2.2.1
  have hG : ∀ x ∈ gT, x.before args s = true := fun x h => hts x (List.mem_cons_of_mem _ h)
  unfold fMX12_make_0_0 at hf
  refine lv_aload_n hx hb dX12_make_0 rfl (lv_at hl 0 rfl) ?_
  obtain ⟨o1, h2, hf⟩ := gw_bind hf
  refine gw_Vz (As := []) (mc' := 0) (ms' := 0) F hW (mMX12_none_0 h2) (cwV 0 hts (gT_V q_7_83 q_7_85 qp_51 q_1_12 q_7_86) rfl rfl rfl hdX12_none ⟨Nat.le_of_ble_eq_true rfl, Nat.le_of_ble_eq_true rfl⟩) 0 10 (aM_0 K σ) rfl rfl hl.1 rfl (Nat.le_of_ble_eq_true rfl) dX12_make_1 ⟨Nat.le_of_ble_eq_true rfl, Nat.le_of_ble_eq_true rfl⟩ rfl rfl (fun H locs z3 hW => ?_)
  refine lv_istore_n (lv' := [(2, .int o1.1), (0, .ref (ka K 0)), (1, .int x1)]) hx hb dX12_make_4 rfl hl (by decide) rfl (fun ls hl => ?_)
  refine lv_aload_n hx hb dX12_make_5 rfl (lv_at hl 1 rfl) ?_
  obtain ⟨o4, h5, hf⟩ := gw_bind hf
  refine gw_Vz (As := []) (mc' := 0) (ms' := 0) F hW (mMX12_named_0 h5) (cwV 0 hts (gT_V q_7_144 q_7_146 qp_60 q_1_12 q_7_147) rfl rfl rfl hdX12_named ⟨Nat.le_of_ble_eq_true rfl, Nat.le_of_ble_eq_true rfl⟩) 0 10 (aM_0 K o1.2) rfl rfl hl.1 rfl (Nat.le_of_ble_eq_true rfl) dX12_make_6 ⟨Nat.le_of_ble_eq_true rfl, Nat.le_of_ble_eq_true rfl⟩ rfl rfl (fun H locs z6 hW => ?_)
  refine lv_istore_n (lv' := [(3, .int o4.1), (2, .int o1.1), (0, .ref (ka K 0)), (1, .int x1)]) hx hb dX12_make_9 rfl hl (by decide) rfl (fun ls hl => ?_)
  refine lv_iload_n hx hb dX12_make_10 rfl (lv_at hl 1 rfl) ?_
  refine lv_if_ne (tgt := 38) hx hb dX12_make_11 (by decide) (fun c7 => ?_) (fun c7 => ?_)
  · replace hf := (if_neg c7).symm.trans hf
    refine lv_iconst (v := (0 : Int32)) hx hb dX12_make_38 (by decide) ?_
    exact gw_reti F hW hf dX12_make_39
  · replace hf := (if_pos c7).symm.trans hf
    refine lv_aload_n hx hb dX12_make_14 rfl (lv_at hl 2 rfl) ?_
    refine lv_iload_n hx hb dX12_make_15 rfl (lv_at hl 0 rfl) ?_
    refine lv_if_eq (tgt := 26) hx hb dX12_make_16 (by decide) (fun c8 => ?_) (fun c8 => ?_)
    · replace hf := (if_pos c8).symm.trans hf
      exact wMX12_make_0_26 F x1 _ _ hf _ _ _ (lv_sub hl [2, 3] rfl) hW
    · replace hf := (if_neg c8).symm.trans hf
      refine lv_aload_n hx hb dX12_make_19 rfl (lv_at hl 2 rfl) ?_
      obtain ⟨o85, h86, hf⟩ := gw_bind hf
      refine gw_Vz (As := []) (mc' := 0) (ms' := 0) F hW (mMX12_isTaken_0 h86) (cwV 0 hts (gT_V q_7_148 q_7_150 qp_61 q_1_12 q_7_151) rfl rfl rfl hdX12_isTaken ⟨Nat.le_of_ble_eq_true rfl, Nat.le_of_ble_eq_true rfl⟩) 0 10 (aM_0 K o4.2) rfl rfl hl.1 rfl (Nat.le_of_ble_eq_true rfl) dX12_make_20 ⟨Nat.le_of_ble_eq_true rfl, Nat.le_of_ble_eq_true rfl⟩ rfl rfl (fun H locs z87 hW => ?_)
      refine lv_if_eq (tgt := 30) hx hb dX12_make_23 (by decide) (fun c88 => ?_) (fun c88 => ?_)
      · replace hf := (if_pos c88).symm.trans hf
        refine lv_iconst (v := (0 : Int32)) hx hb dX12_make_30 (by decide) ?_
        exact wMX12_make_0_31 F x1 (0 : Int32) _ _ hf _ _ _ (lv_sub hl [2, 3] rfl) hW
      · replace hf := (if_neg c88).symm.trans hf
        exact wMX12_make_0_26 F x1 _ _ hf _ _ _ (lv_sub hl [2, 3] rfl) hW
set_option maxHeartbeats 4000000 in
set_option maxRecDepth 100000 in
theorem mMX12_make_0 {l : Launch} {K : KX} {σ : XS} {x1 : Int32} {o : (Int32 × XS)} (hf : fMX12_make_0 (kn K) x1 σ = some o) : gw_Mi l (kD K) vwCl (tyM K) (wM K) yX12_make wsX12_make rMX12_make_0 [.ref (ka K 0), .int x1] σ o := by
  intro sz
  refine gw_body (cc := cX12_make) (maxL := 10) (yret := some .int) (by decide +kernel) rfl ?_ (Nat.le_of_ble_eq_true rfl)
  intro p e s m below meth c F hsz hW ls hl
  exact wMX12_make_0_0 F x1 σ o hf s.heap [] ls hl hW
abbrev rMX12_append_0 : Room := { frames := 2, cells := 0, slots := 0, locals := 46 }
def PMX12_append_0_90 (p : Program) (l : Launch) (e : Env) (s : State) (m : MethodId) (args : Array Value) (below : List Frame) (meth : Method) (c : Code) (A : Nat → Prop) (K : KX) (t : (Int32 × Int32 × Int32 × Int32 × Int32 × Int32 × Int32 × XS)) (o : (Int32 × XS)) : Prop := ∀ (H : Heap) (locs : List Loc) (ls : Array Slot), lv_has ls 10 [(0, .ref (ka K 0)), (1, .int t.1), (2, .int t.2.1), (3, .int t.2.2.1), (4, .int t.2.2.2.1), (5, .int t.2.2.2.2.1), (7, .int t.2.2.2.2.2.1), (8, .int t.2.2.2.2.2.2.1)] → gw_ (kD K) vwCl (tyM K) (wM K) A s t.2.2.2.2.2.2.2 H locs → W p l e rMX12_append_0 s m args below meth c H locs 0 0 (MQ below (gw_Qi (kD K) vwCl (tyM K) (wM K) A o) args s rMX12_append_0.cells rMX12_append_0.slots A) (F0 m 90 ls [])
def PMX12_append_0_57 (p : Program) (l : Launch) (e : Env) (s : State) (m : MethodId) (args : Array Value) (below : List Frame) (meth : Method) (c : Code) (A : Nat → Prop) (K : KX) (t : (Int32 × Int32 × Int32 × Int32 × Int32 × XS)) (o : (Int32 × XS)) : Prop := ∀ (H : Heap) (locs : List Loc) (ls : Array Slot), lv_has ls 10 [(0, .ref (ka K 0)), (1, .int t.1), (2, .int t.2.1), (3, .int t.2.2.1), (4, .int t.2.2.2.1), (5, .int t.2.2.2.2.1)] → gw_ (kD K) vwCl (tyM K) (wM K) A s t.2.2.2.2.2 H locs → W p l e rMX12_append_0 s m args below meth c H locs 0 0 (MQ below (gw_Qi (kD K) vwCl (tyM K) (wM K) A o) args s rMX12_append_0.cells rMX12_append_0.slots A) (F0 m 57 ls [])
set_option maxHeartbeats 4000000 in
set_option maxRecDepth 100000 in
theorem wMX12_append_0_191 {p : Program} {l : Launch} {e : Env} {s : State} {m : MethodId} {args : Array Value} {below : List Frame} {meth : Method} {c : Code} {A : Nat → Prop} {K : KX} (F : fx_ p s m args meth c cX12_append 10 (some .int) RX12 wsX12_append) {k90 : (Int32 × Int32 × Int32 × Int32 × Int32 × Int32 × Int32 × XS) → Option (Int32 × XS)} (hk90 : ∀ t o, k90 t = some o → PMX12_append_0_90 p l e s m args below meth c A K t o) (x1 : Int32) (x2 : Int32) (x3 : Int32) (x4 : Int32) (x5 : Int32) (x7 : Int32) (x8 : Int32) (y0 : Int32) (y1 : Int32) (σ : XS) (o : (Int32 × XS)) (hf : fMX12_append_0_191 (kn K) k90 x1 x2 x3 x4 x5 x7 x8 y0 y1 σ = some o) (H : Heap) (locs : List Loc) (ls : Array Slot) (hl : lv_has ls 10 [(0, .ref (ka K 0)), (1, .int x1), (2, .int x2), (3, .int x3), (4, .int x4), (5, .int x5), (7, .int x7), (8, .int x8)]) (hW : gw_ (kD K) vwCl (tyM K) (wM K) A s σ H locs) : W p l e rMX12_append_0 s m args below meth c H locs 0 0 (MQ below (gw_Qi (kD K) vwCl (tyM K) (wM K) A o) args s rMX12_append_0.cells rMX12_append_0.slots A) (F0 m 191 ls [.int y0, .int y1, .ref (ka K 1)]) := by
  have hx := F.1
  have hb := F.2.1
  have hml := F.2.2.2.1
  have hown := F.2.2.2.2.1
  have hts := F.2.2.2.2.2.1
  have hG : ∀ x ∈ gT, x.before args s = true := fun x h => hts x (List.mem_cons_of_mem _ h)
  unfold fMX12_append_0_191 at hf
  rcases Decidable.em (y1 < 0 ∨ 524288 ≤ y1.toNatClampNeg) with c31 | c31
  · replace hf := (if_pos c31).symm.trans hf
    exact absurd hf (by simp)
  · replace hf := (if_neg c31).symm.trans hf
    refine gw_bast (σ' := (stA σ 0 y1.toNatClampNeg (vp_nar .byte y0))) F hW 1 0 (aM_1 K σ) rfl c31 dX12_append_191 (sAM_0 _ _ _) (fun H locs hW => ?_)
    refine lv_iinc (v := (x8 + (1 : Int32))) (lv' := [(8, .int (x8 + (1 : Int32))), (0, .ref (ka K 0)), (1, .int x1), (2, .int x2), (3, .int x3), (4, .int x4), (5, .int x5), (7, .int x7)]) hx hb dX12_append_192 hl (k := 7) rfl rfl (by decide) rfl (fun ls hl => ?_)
    refine lv_goto (tgt := 90) hx hb dX12_append_195 (by decide) ?_
    exact hk90 _ _ hf _ _ _ (lv_sub hl [1, 2, 3, 4, 5, 6, 7, 0] rfl) hW
set_option maxHeartbeats 4000000 in
set_option maxRecDepth 100000 in
theorem wMX12_append_0_143 {p : Program} {l : Launch} {e : Env} {s : State} {m : MethodId} {args : Array Value} {below : List Frame} {meth : Method} {c : Code} {A : Nat → Prop} {K : KX} (F : fx_ p s m args meth c cX12_append 10 (some .int) RX12 wsX12_append) {k90 : (Int32 × Int32 × Int32 × Int32 × Int32 × Int32 × Int32 × XS) → Option (Int32 × XS)} (hk90 : ∀ t o, k90 t = some o → PMX12_append_0_90 p l e s m args below meth c A K t o) (x1 : Int32) (x2 : Int32) (x3 : Int32) (x4 : Int32) (x5 : Int32) (x8 : Int32) (x9 : Int32) (y0 : Int32) (σ : XS) (o : (Int32 × XS)) (hf : fMX12_append_0_143 (kn K) k90 x1 x2 x3 x4 x5 x8 x9 y0 σ = some o) (H : Heap) (locs : List Loc) (ls : Array Slot) (hl : lv_has ls 10 [(0, .ref (ka K 0)), (1, .int x1), (2, .int x2), (3, .int x3), (4, .int x4), (5, .int x5), (8, .int x8), (9, .int x9)]) (hW : gw_ (kD K) vwCl (tyM K) (wM K) A s σ H locs) : W p l e rMX12_append_0 s m args below meth c H locs 0 0 (MQ below (gw_Qi (kD K) vwCl (tyM K) (wM K) A o) args s rMX12_append_0.cells rMX12_append_0.slots A) (F0 m 143 ls [.int y0]) := by
  have hx := F.1
  have hb := F.2.1
  have hml := F.2.2.2.1
  have hown := F.2.2.2.2.1
  have hts := F.2.2.2.2.2.1
  have hG : ∀ x ∈ gT, x.before args s = true := fun x h => hts x (List.mem_cons_of_mem _ h)
  unfold fMX12_append_0_143 at hf
  refine lv_istore (lv' := [(7, .int y0), (0, .ref (ka K 0)), (1, .int x1), (2, .int x2), (3, .int x3), (4, .int x4), (5, .int x5), (8, .int x8), (9, .int x9)]) hx hb dX12_append_143 hl (by decide) rfl (fun ls hl => ?_)
  refine lv_aload_n hx hb dX12_append_145 rfl (lv_at hl 1 rfl) ?_
  refine gw_get (v := .ref (ka K 1)) F inc_X12 hW 0 10 2 (aM_0 K σ) rfl (by decide) (hG _ q_6_114) (fun _ h9 => h9) rfl dX12_append_146 ?_
  refine lv_sipush (v := (1024 : Int32)) hx hb dX12_append_149 (by decide) ?_
  refine lv_iload hx hb dX12_append_152 (lv_at hl 0 rfl) ?_
  refine lv_imul hx hb dX12_append_154 ?_
  refine lv_iload hx hb dX12_append_155 (lv_at hl 8 rfl) ?_
  refine lv_sipush (v := (1024 : Int32)) hx hb dX12_append_157 (by decide) ?_
  refine lv_irem hx hb dX12_append_160 (by decide) ?_
  refine lv_iadd hx hb dX12_append_161 ?_
  refine lv_iload_n hx hb dX12_append_162 rfl (lv_at hl 4 rfl) ?_
  refine lv_if_eq (tgt := 176) hx hb dX12_append_163 (by decide) (fun c30 => ?_) (fun c30 => ?_)
  · replace hf := (if_pos c30).symm.trans hf
    refine lv_iload hx hb dX12_append_176 (lv_at hl 5 rfl) ?_
    refine lv_iload hx hb dX12_append_178 (lv_at hl 7 rfl) ?_
    refine lv_iload hx hb dX12_append_180 (lv_at hl 7 rfl) ?_
    refine lv_imul hx hb dX12_append_182 ?_
    refine lv_iadd hx hb dX12_append_183 ?_
    refine lv_iload hx hb dX12_append_184 (lv_at hl 7 rfl) ?_
    refine lv_bipush (v := (8 : Int32)) hx hb dX12_append_186 (by decide) ?_
    refine lv_ishr hx hb dX12_append_188 ?_
    refine lv_iadd hx hb dX12_append_189 ?_
    refine lv_i2b (v := ((x4 + (x8 * x8)) + (x8 >>> ((8 : Int32) &&& 31))).toInt8.toInt32) hx hb dX12_append_190 rfl ?_
    exact wMX12_append_0_191 F hk90 x1 x2 x3 x4 x5 y0 x8 (((x4 + (x8 * x8)) + (x8 >>> ((8 : Int32) &&& 31))).toInt8.toInt32) (((1024 : Int32) * y0) + (x9 - x9 / (1024 : Int32) * (1024 : Int32))) _ _ hf _ _ _ (lv_sub hl [1, 2, 3, 4, 5, 6, 0, 7] rfl) hW
  · replace hf := (if_neg c30).symm.trans hf
    refine lv_aload_n hx hb dX12_append_166 rfl (lv_at hl 1 rfl) ?_
    refine gw_get (v := .ref (ka K 3)) F inc_X12 hW 0 10 4 (aM_0 K σ) rfl (by decide) (hG _ q_6_116) (fun _ h9 => h9) rfl dX12_append_167 ?_
    refine lv_iload hx hb dX12_append_170 (lv_at hl 7 rfl) ?_
    rcases Decidable.em (x8 < 0 ∨ 4096 ≤ x8.toNatClampNeg) with c32 | c32
    · replace hf := (if_pos c32).symm.trans hf
      exact absurd hf (by simp)
    · replace hf := (if_neg c32).symm.trans hf
      refine gw_bald F hW 3 2 (aM_3 K σ) rfl c32 dX12_append_172 ?_
      refine lv_goto (tgt := 191) hx hb dX12_append_173 (by decide) ?_
      exact wMX12_append_0_191 F hk90 x1 x2 x3 x4 x5 y0 x8 (σ.2.1 2 x8.toNatClampNeg) (((1024 : Int32) * y0) + (x9 - x9 / (1024 : Int32) * (1024 : Int32))) _ _ hf _ _ _ (lv_sub hl [1, 2, 3, 4, 5, 6, 0, 7] rfl) hW
set_option maxHeartbeats 4000000 in
set_option maxRecDepth 100000 in
theorem wMX12_append_0_90 {p : Program} {l : Launch} {e : Env} {s : State} {m : MethodId} {args : Array Value} {below : List Frame} {meth : Method} {c : Code} {A : Nat → Prop} {K : KX} (F : fx_ p s m args meth c cX12_append 10 (some .int) RX12 wsX12_append) {k90 : (Int32 × Int32 × Int32 × Int32 × Int32 × Int32 × Int32 × XS) → Option (Int32 × XS)} (hk90 : ∀ t o, k90 t = some o → PMX12_append_0_90 p l e s m args below meth c A K t o) (x1 : Int32) (x2 : Int32) (x3 : Int32) (x4 : Int32) (x5 : Int32) (x7 : Int32) (x8 : Int32) (σ : XS) (o : (Int32 × XS)) (hf : fMX12_append_0_90 (kn K) k90 x1 x2 x3 x4 x5 x7 x8 σ = some o) (H : Heap) (locs : List Loc) (ls : Array Slot) (hl : lv_has ls 10 [(0, .ref (ka K 0)), (1, .int x1), (2, .int x2), (3, .int x3), (4, .int x4), (5, .int x5), (7, .int x7), (8, .int x8)]) (hW : gw_ (kD K) vwCl (tyM K) (wM K) A s σ H locs) : W p l e rMX12_append_0 s m args below meth c H locs 0 0 (MQ below (gw_Qi (kD K) vwCl (tyM K) (wM K) A o) args s rMX12_append_0.cells rMX12_append_0.slots A) (F0 m 90 ls []) := by
  have hx := F.1
  have hb := F.2.1
  have hml := F.2.2.2.1
  have hown := F.2.2.2.2.1
  have hts := F.2.2.2.2.2.1
  have hG : ∀ x ∈ gT, x.before args s = true := fun x h => hts x (List.mem_cons_of_mem _ h)
  unfold fMX12_append_0_90 at hf
  refine lv_iload hx hb dX12_append_90 (lv_at hl 7 rfl) ?_
  refine lv_iload_n hx hb dX12_append_92 rfl (lv_at hl 2 rfl) ?_
  refine lv_icmp_ge (tgt := 198) hx hb dX12_append_93 (by decide) (fun c25 => ?_) (fun c25 => ?_)
  · replace hf := (if_pos c25).symm.trans hf
    refine lv_aload_n hx hb dX12_append_198 rfl (lv_at hl 0 rfl) ?_
    refine gw_get (v := .ref (ka K 8)) F inc_X12 hW 0 10 17 (aM_0 K σ) rfl (by decide) (hG _ q_6_129) (fun _ h9 => h9) rfl dX12_append_199 ?_
    refine lv_iload_n hx hb dX12_append_202 rfl (lv_at hl 1 rfl) ?_
    refine lv_iload hx hb dX12_append_203 (lv_at hl 5 rfl) ?_
    refine lv_iload_n hx hb dX12_append_205 rfl (lv_at hl 2 rfl) ?_
    refine lv_iadd hx hb dX12_append_206 ?_
    rcases Decidable.em (x1 < 0 ∨ 2100 ≤ x1.toNatClampNeg) with c26 | c26
    · replace hf := (if_pos c26).symm.trans hf
      exact absurd hf (by simp)
    · replace hf := (if_neg c26).symm.trans hf
      refine gw_iast (σ' := (stA σ 7 x1.toNatClampNeg (x5 + x2))) F hW 8 7 (aM_8 K σ) rfl c26 dX12_append_207 (sAM_7 _ _ _) (fun H locs hW => ?_)
      refine lv_aload_n hx hb dX12_append_208 rfl (lv_at hl 0 rfl) ?_
      refine lv_iconst (v := (0 : Int32)) hx hb dX12_append_209 (by decide) ?_
      refine gw_put (σ' := (stS (stA σ 7 x1.toNatClampNeg (x5 + x2)) 3 (0 : Int32))) (ty := .boolean) F inc_X12 tyX12 tyX12_ok nmX12 hW 0 10 8 (aM_0 K (stA σ 7 x1.toNatClampNeg (x5 + x2))) rfl (by decide) (hG _ q_6_120) (fun _ h9 => h9) rfl (by decide +kernel) rfl rfl (Nat.le_of_ble_eq_true rfl) dX12_append_210 (sSM_3 _ _ _) (fun H locs hW => ?_)
      refine lv_aload_n hx hb dX12_append_213 rfl (lv_at hl 0 rfl) ?_
      refine gw_get (v := .ref (ka K 8)) F inc_X12 hW 0 10 17 (aM_0 K (stS (stA σ 7 x1.toNatClampNeg (x5 + x2)) 3 (0 : Int32))) rfl (by decide) (hG _ q_6_129) (fun _ h9 => h9) rfl dX12_append_214 ?_
      refine lv_iload_n hx hb dX12_append_217 rfl (lv_at hl 1 rfl) ?_
      rcases Decidable.em (x1 < 0 ∨ 2100 ≤ x1.toNatClampNeg) with c27 | c27
      · replace hf := (if_pos c27).symm.trans hf
        exact absurd hf (by simp)
      · replace hf := (if_neg c27).symm.trans hf
        refine gw_iald F hW 8 7 (aM_8 K (stS (stA σ 7 x1.toNatClampNeg (x5 + x2)) 3 (0 : Int32))) rfl c27 dX12_append_218 ?_
        exact gw_reti F hW hf dX12_append_219
  · replace hf := (if_neg c25).symm.trans hf
    refine lv_iload hx hb dX12_append_96 (lv_at hl 5 rfl) ?_
    refine lv_iload hx hb dX12_append_98 (lv_at hl 7 rfl) ?_
    refine lv_iadd hx hb dX12_append_100 ?_
    refine lv_istore (lv' := [(9, .int (x5 + x8)), (0, .ref (ka K 0)), (1, .int x1), (2, .int x2), (3, .int x3), (4, .int x4), (5, .int x5), (7, .int x7), (8, .int x8)]) hx hb dX12_append_101 hl (by decide) rfl (fun ls hl => ?_)
    refine lv_iload hx hb dX12_append_103 (lv_at hl 8 rfl) ?_
    refine lv_if_ne (tgt := 122) hx hb dX12_append_105 (by decide) (fun c28 => ?_) (fun c28 => ?_)
    · replace hf := (if_neg c28).symm.trans hf
      refine lv_iload hx hb dX12_append_122 (lv_at hl 0 rfl) ?_
      refine lv_sipush (v := (1024 : Int32)) hx hb dX12_append_124 (by decide) ?_
      refine lv_irem hx hb dX12_append_127 (by decide) ?_
      refine lv_if_ne (tgt := 141) hx hb dX12_append_128 (by decide) (fun c29 => ?_) (fun c29 => ?_)
      · replace hf := (if_neg c29).symm.trans hf
        refine lv_iload hx hb dX12_append_141 (lv_at hl 7 rfl) ?_
        exact wMX12_append_0_143 F hk90 x1 x2 x3 x4 x5 x8 (x5 + x8) x7 _ _ hf _ _ _ (lv_sub hl [1, 2, 3, 4, 5, 6, 8, 0] rfl) hW
      · replace hf := (if_pos c29).symm.trans hf
        refine lv_aload_n hx hb dX12_append_131 rfl (lv_at hl 1 rfl) ?_
        refine gw_get (v := .ref (ka K 6)) F inc_X12 hW 0 10 15 (aM_0 K σ) rfl (by decide) (hG _ q_6_127) (fun _ h9 => h9) rfl dX12_append_132 ?_
        refine lv_iload hx hb dX12_append_135 (lv_at hl 7 rfl) ?_
        rcases Decidable.em (x7 < 0 ∨ 512 ≤ x7.toNatClampNeg) with c33 | c33
        · replace hf := (if_pos c33).symm.trans hf
          exact absurd hf (by simp)
        · replace hf := (if_neg c33).symm.trans hf
          refine gw_iald F hW 6 5 (aM_6 K σ) rfl c33 dX12_append_137 ?_
          refine lv_goto (tgt := 143) hx hb dX12_append_138 (by decide) ?_
          exact wMX12_append_0_143 F hk90 x1 x2 x3 x4 x5 x8 (x5 + x8) (σ.2.1 5 x7.toNatClampNeg) _ _ hf _ _ _ (lv_sub hl [1, 2, 3, 4, 5, 6, 8, 0] rfl) hW
    · replace hf := (if_pos c28).symm.trans hf
      refine lv_aload_n hx hb dX12_append_108 rfl (lv_at hl 1 rfl) ?_
      refine lv_iload_n hx hb dX12_append_109 rfl (lv_at hl 2 rfl) ?_
      refine lv_iload hx hb dX12_append_110 (lv_at hl 0 rfl) ?_
      refine lv_sipush (v := (1024 : Int32)) hx hb dX12_append_112 (by decide) ?_
      refine lv_idiv hx hb dX12_append_115 (by decide) ?_
      obtain ⟨o34, h35, hf⟩ := gw_bind hf
      refine gw_Vi (As := [.int x1, .int ((x5 + x8) / (1024 : Int32))]) (mc' := 0) (ms' := 0) F hW (mMX12_blockOf_0 h35) (cwV 2 hts (gT_V q_7_128 q_7_130 qp_59 q_1_12 q_7_131) rfl rfl rfl hdX12_blockOf ⟨Nat.le_of_ble_eq_true rfl, Nat.le_of_ble_eq_true rfl⟩) 0 10 (aM_0 K σ) rfl rfl hl.1 rfl (Nat.le_of_ble_eq_true rfl) dX12_append_116 ⟨Nat.le_of_ble_eq_true rfl, Nat.le_of_ble_eq_true rfl⟩ rfl rfl (fun H locs hW => ?_)
      refine lv_goto (tgt := 143) hx hb dX12_append_119 (by decide) ?_
      exact wMX12_append_0_143 F hk90 x1 x2 x3 x4 x5 x8 (x5 + x8) o34.1 _ _ hf _ _ _ (lv_sub hl [1, 2, 3, 4, 5, 6, 8, 0] rfl) hW
set_option maxHeartbeats 4000000 in
set_option maxRecDepth 100000 in
theorem wMX12_append_0_57 {p : Program} {l : Launch} {e : Env} {s : State} {m : MethodId} {args : Array Value} {below : List Frame} {meth : Method} {c : Code} {A : Nat → Prop} {K : KX} (F : fx_ p s m args meth c cX12_append 10 (some .int) RX12 wsX12_append) {k57 : (Int32 × Int32 × Int32 × Int32 × Int32 × XS) → Option (Int32 × XS)} (hk57 : ∀ t o, k57 t = some o → PMX12_append_0_57 p l e s m args below meth c A K t o) (x1 : Int32) (x2 : Int32) (x3 : Int32) (x4 : Int32) (x5 : Int32) (σ : XS) (o : (Int32 × XS)) (hf : fMX12_append_0_57 (kn K) k57 x1 x2 x3 x4 x5 σ = some o) (H : Heap) (locs : List Loc) (ls : Array Slot) (hl : lv_has ls 10 [(0, .ref (ka K 0)), (1, .int x1), (2, .int x2), (3, .int x3), (4, .int x4), (5, .int x5)]) (hW : gw_ (kD K) vwCl (tyM K) (wM K) A s σ H locs) : W p l e rMX12_append_0 s m args below meth c H locs 0 0 (MQ below (gw_Qi (kD K) vwCl (tyM K) (wM K) A o) args s rMX12_append_0.cells rMX12_append_0.slots A) (F0 m 57 ls []) := by
  have hx := F.1
  have hb := F.2.1
  have hml := F.2.2.2.1
  have hown := F.2.2.2.2.1
  have hts := F.2.2.2.2.2.1
  have hG : ∀ x ∈ gT, x.before args s = true := fun x h => hts x (List.mem_cons_of_mem _ h)
  unfold fMX12_append_0_57 at hf
  refine lv_aload_n hx hb dX12_append_57 rfl (lv_at hl 0 rfl) ?_
  refine gw_get (v := .ref (ka K 10)) F inc_X12 hW 0 10 19 (aM_0 K σ) rfl (by decide) (hG _ q_6_131) (fun _ h9 => h9) rfl dX12_append_58 ?_
  refine lv_iload_n hx hb dX12_append_61 rfl (lv_at hl 1 rfl) ?_
  rcases Decidable.em (x1 < 0 ∨ 2100 ≤ x1.toNatClampNeg) with c20 | c20
  · replace hf := (if_pos c20).symm.trans hf
    exact absurd hf (by simp)
  · replace hf := (if_neg c20).symm.trans hf
    refine gw_iald F hW 10 9 (aM_10 K σ) rfl c20 dX12_append_62 ?_
    refine lv_iload hx hb dX12_append_63 (lv_at hl 5 rfl) ?_
    refine lv_iload_n hx hb dX12_append_65 rfl (lv_at hl 2 rfl) ?_
    refine lv_iadd hx hb dX12_append_66 ?_
    refine lv_sipush (v := (1024 : Int32)) hx hb dX12_append_67 (by decide) ?_
    obtain ⟨o21, h22, hf⟩ := gw_bind hf
    refine gw_Si (As := [.int (x5 + x2), .int (1024 : Int32)]) (mc' := 0) (ms' := 0) F hW (mMX12_parts h22) (va_cwS 2 hts (gT_S q_6_230 q_6_231 q_1_12 q_6_232) rfl rfl rfl hdX12_parts.2 ⟨Nat.le_of_ble_eq_true rfl, Nat.le_of_ble_eq_true rfl⟩) rfl hl.1 rfl (Nat.le_of_ble_eq_true rfl) dX12_append_70 ⟨Nat.le_of_ble_eq_true rfl, Nat.le_of_ble_eq_true rfl⟩ rfl rfl (fun H locs hW => ?_)
    refine lv_icmp_ge (tgt := 84) hx hb dX12_append_73 (by decide) (fun c24 => ?_) (fun c24 => ?_)
    · replace hf := (if_pos c24).symm.trans hf
      refine lv_iconst (v := (0 : Int32)) hx hb dX12_append_84 (by decide) ?_
      refine lv_istore (lv' := [(7, .int (0 : Int32)), (0, .ref (ka K 0)), (1, .int x1), (2, .int x2), (3, .int x3), (4, .int x4), (5, .int x5)]) hx hb dX12_append_85 hl (by decide) rfl (fun ls hl => ?_)
      refine lv_iconst (v := (0 : Int32)) hx hb dX12_append_87 (by decide) ?_
      refine lv_istore (lv' := [(8, .int (0 : Int32)), (7, .int (0 : Int32)), (0, .ref (ka K 0)), (1, .int x1), (2, .int x2), (3, .int x3), (4, .int x4), (5, .int x5)]) hx hb dX12_append_88 hl (by decide) rfl (fun ls hl => ?_)
      exact lfix_ind (P := PMX12_append_0_90 p l e s m args below meth c A K) (fun k90 hk90 t o hf => wMX12_append_0_90 F hk90 t.1 t.2.1 t.2.2.1 t.2.2.2.1 t.2.2.2.2.1 t.2.2.2.2.2.1 t.2.2.2.2.2.2.1 t.2.2.2.2.2.2.2 o hf) FU _ _ hf _ _ _ (lv_sub hl [2, 3, 4, 5, 6, 7, 1, 0] rfl) hW
    · replace hf := (if_neg c24).symm.trans hf
      refine lv_aload_n hx hb dX12_append_76 rfl (lv_at hl 0 rfl) ?_
      refine lv_iload_n hx hb dX12_append_77 rfl (lv_at hl 1 rfl) ?_
      obtain ⟨o37, h38, hf⟩ := gw_bind hf
      refine gw_Vv (As := [.int x1]) (mc' := 0) (ms' := 0) F hW (mMX12_gain_0 h38) (cwV 1 hts (gT_V q_7_5 q_7_7 qp_38 q_1_12 q_7_8) rfl rfl rfl hdX12_gain ⟨Nat.le_of_ble_eq_true rfl, Nat.le_of_ble_eq_true rfl⟩) 0 10 (aM_0 K o21.2) rfl rfl hl.1 rfl (Nat.le_of_ble_eq_true rfl) dX12_append_78 ⟨Nat.le_of_ble_eq_true rfl, Nat.le_of_ble_eq_true rfl⟩ rfl rfl (fun H locs hW => ?_)
      refine lv_goto (tgt := 57) hx hb dX12_append_81 (by decide) ?_
      exact hk57 _ _ hf _ _ _ (lv_sub hl [0, 1, 2, 3, 4, 5] rfl) hW
set_option maxHeartbeats 4000000 in
set_option maxRecDepth 100000 in
theorem wMX12_append_0_48 {p : Program} {l : Launch} {e : Env} {s : State} {m : MethodId} {args : Array Value} {below : List Frame} {meth : Method} {c : Code} {A : Nat → Prop} {K : KX} (F : fx_ p s m args meth c cX12_append 10 (some .int) RX12 wsX12_append) (x1 : Int32) (x2 : Int32) (x3 : Int32) (x4 : Int32) (x5 : Int32) (y0 : Int32) (σ : XS) (o : (Int32 × XS)) (hf : fMX12_append_0_48 (kn K) x1 x2 x3 x4 x5 y0 σ = some o) (H : Heap) (locs : List Loc) (ls : Array Slot) (hl : lv_has ls 10 [(0, .ref (ka K 0)), (1, .int x1), (2, .int x2), (3, .int x3), (4, .int x4), (5, .int x5)]) (hW : gw_ (kD K) vwCl (tyM K) (wM K) A s σ H locs) : W p l e rMX12_append_0 s m args below meth c H locs 0 0 (MQ below (gw_Qi (kD K) vwCl (tyM K) (wM K) A o) args s rMX12_append_0.cells rMX12_append_0.slots A) (F0 m 48 ls [.int y0, .ref (ka K 0)]) := by
  have hx := F.1
  have hb := F.2.1
  have hml := F.2.2.2.1
  have hown := F.2.2.2.2.1
  have hts := F.2.2.2.2.2.1
  have hG : ∀ x ∈ gT, x.before args s = true := fun x h => hts x (List.mem_cons_of_mem _ h)
  unfold fMX12_append_0_48 at hf
  refine lv_iconst (v := (4 : Int32)) hx hb dX12_append_48 (by decide) ?_
  obtain ⟨o16, h17, hf⟩ := gw_bind hf
  refine gw_Vz (As := [.int y0, .int (4 : Int32)]) (mc' := 0) (ms' := 0) F hW (mMX12_fails_0 h17) (cwV 2 hts (gT_V q_7_87 q_7_89 qp_52 q_1_12 q_7_90) rfl rfl rfl hdX12_fails ⟨Nat.le_of_ble_eq_true rfl, Nat.le_of_ble_eq_true rfl⟩) 0 10 (aM_0 K σ) rfl rfl hl.1 rfl (Nat.le_of_ble_eq_true rfl) dX12_append_49 ⟨Nat.le_of_ble_eq_true rfl, Nat.le_of_ble_eq_true rfl⟩ rfl rfl (fun H locs z18 hW => ?_)
  refine lv_if_eq (tgt := 57) hx hb dX12_append_52 (by decide) (fun c19 => ?_) (fun c19 => ?_)
  · replace hf := (if_pos c19).symm.trans hf
    exact lfix_ind (P := PMX12_append_0_57 p l e s m args below meth c A K) (fun k57 hk57 t o hf => wMX12_append_0_57 F hk57 t.1 t.2.1 t.2.2.1 t.2.2.2.1 t.2.2.2.2.1 t.2.2.2.2.2 o hf) FU _ _ hf _ _ _ (lv_sub hl [0, 1, 2, 3, 4, 5] rfl) hW
  · replace hf := (if_neg c19).symm.trans hf
    refine lv_iconst (v := (0 : Int32)) hx hb dX12_append_55 (by decide) ?_
    exact gw_reti F hW hf dX12_append_56
set_option maxHeartbeats 4000000 in
set_option maxRecDepth 100000 in
theorem wMX12_append_0_0 {p : Program} {l : Launch} {e : Env} {s : State} {m : MethodId} {args : Array Value} {below : List Frame} {meth : Method} {c : Code} {A : Nat → Prop} {K : KX} (F : fx_ p s m args meth c cX12_append 10 (some .int) RX12 wsX12_append) (x1 : Int32) (x2 : Int32) (x3 : Int32) (x4 : Int32) (σ : XS) (o : (Int32 × XS)) (hf : fMX12_append_0_0 (kn K) x1 x2 x3 x4 σ = some o) (H : Heap) (locs : List Loc) (ls : Array Slot) (hl : lv_has ls 10 [(0, .ref (ka K 0)), (1, .int x1), (2, .int x2), (3, .int x3), (4, .int x4)]) (hW : gw_ (kD K) vwCl (tyM K) (wM K) A s σ H locs) : W p l e rMX12_append_0 s m args below meth c H locs 0 0 (MQ below (gw_Qi (kD K) vwCl (tyM K) (wM K) A o) args s rMX12_append_0.cells rMX12_append_0.slots A) (F0 m 0 ls []) := by
  have hx := F.1
  have hb := F.2.1
  have hml := F.2.2.2.1
  have hown := F.2.2.2.2.1
  have hts := F.2.2.2.2.2.1
  have hG : ∀ x ∈ gT, x.before args s = true := fun x h => hts x (List.mem_cons_of_mem _ h)
  unfold fMX12_append_0_0 at hf
  refine lv_aload_n hx hb dX12_append_0 rfl (lv_at hl 0 rfl) ?_
  refine gw_get (v := .ref (ka K 8)) F inc_X12 hW 0 10 17 (aM_0 K σ) rfl (by decide) (hG _ q_6_129) (fun _ h9 => h9) rfl dX12_append_1 ?_
  refine lv_iload_n hx hb dX12_append_4 rfl (lv_at hl 1 rfl) ?_
  rcases Decidable.em (x1 < 0 ∨ 2100 ≤ x1.toNatClampNeg) with c1 | c1
  · replace hf := (if_pos c1).symm.trans hf
    exact absurd hf (by simp)
  · replace hf := (if_neg c1).symm.trans hf
    refine gw_iald F hW 8 7 (aM_8 K σ) rfl c1 dX12_append_5 ?_
    refine lv_istore (lv' := [(5, .int (σ.2.1 7 x1.toNatClampNeg)), (0, .ref (ka K 0)), (1, .int x1), (2, .int x2), (3, .int x3), (4, .int x4)]) hx hb dX12_append_6 hl (by decide) rfl (fun ls hl => ?_)
    refine lv_iload hx hb dX12_append_8 (lv_at hl 0 rfl) ?_
    refine lv_iload_n hx hb dX12_append_10 rfl (lv_at hl 3 rfl) ?_
    refine lv_iadd hx hb dX12_append_11 ?_
    refine lv_sipush (v := (1024 : Int32)) hx hb dX12_append_12 (by decide) ?_
    obtain ⟨o2, h3, hf⟩ := gw_bind hf
    refine gw_Si (As := [.int ((σ.2.1 7 x1.toNatClampNeg) + x2), .int (1024 : Int32)]) (mc' := 0) (ms' := 0) F hW (mMX12_parts h3) (va_cwS 2 hts (gT_S q_6_230 q_6_231 q_1_12 q_6_232) rfl rfl rfl hdX12_parts.2 ⟨Nat.le_of_ble_eq_true rfl, Nat.le_of_ble_eq_true rfl⟩) rfl hl.1 rfl (Nat.le_of_ble_eq_true rfl) dX12_append_15 ⟨Nat.le_of_ble_eq_true rfl, Nat.le_of_ble_eq_true rfl⟩ rfl rfl (fun H locs hW => ?_)
    obtain ⟨o5, h6, hf⟩ := gw_bind hf
    refine gw_Si (As := [.int o2.1]) (mc' := 0) (ms' := 0) F hW (mMX12_all h6) (va_cwS 1 hts (gT_S q_7_68 q_7_69 q_1_12 q_7_70) rfl rfl rfl hdX12_all.2 ⟨Nat.le_of_ble_eq_true rfl, Nat.le_of_ble_eq_true rfl⟩) rfl hl.1 rfl (Nat.le_of_ble_eq_true rfl) dX12_append_18 ⟨Nat.le_of_ble_eq_true rfl, Nat.le_of_ble_eq_true rfl⟩ rfl rfl (fun H locs hW => ?_)
    refine lv_aload_n hx hb dX12_append_21 rfl (lv_at hl 1 rfl) ?_
    refine gw_get (v := .ref (ka K 10)) F inc_X12 hW 0 10 19 (aM_0 K o5.2) rfl (by decide) (hG _ q_6_131) (fun _ h9 => h9) rfl dX12_append_22 ?_
    refine lv_iload_n hx hb dX12_append_25 rfl (lv_at hl 2 rfl) ?_
    rcases Decidable.em (x1 < 0 ∨ 2100 ≤ x1.toNatClampNeg) with c8 | c8
    · replace hf := (if_pos c8).symm.trans hf
      exact absurd hf (by simp)
    · replace hf := (if_neg c8).symm.trans hf
      refine gw_iald F hW 10 9 (aM_10 K o5.2) rfl c8 dX12_append_26 ?_
      obtain ⟨o9, h10, hf⟩ := gw_bind hf
      refine gw_Si (As := [.int (o5.2.2.1 9 x1.toNatClampNeg)]) (mc' := 0) (ms' := 0) F hW (mMX12_all h10) (va_cwS 1 hts (gT_S q_7_68 q_7_69 q_1_12 q_7_70) rfl rfl rfl hdX12_all.2 ⟨Nat.le_of_ble_eq_true rfl, Nat.le_of_ble_eq_true rfl⟩) rfl hl.1 rfl (Nat.le_of_ble_eq_true rfl) dX12_append_27 ⟨Nat.le_of_ble_eq_true rfl, Nat.le_of_ble_eq_true rfl⟩ rfl rfl (fun H locs hW => ?_)
      refine lv_isub hx hb dX12_append_30 ?_
      refine lv_istore (lv' := [(6, .int (o5.1 - o9.1)), (5, .int (σ.2.1 7 x1.toNatClampNeg)), (0, .ref (ka K 0)), (1, .int x1), (2, .int x2), (3, .int x3), (4, .int x4)]) hx hb dX12_append_31 hl (by decide) rfl (fun ls hl => ?_)
      refine lv_aload_n hx hb dX12_append_33 rfl (lv_at hl 2 rfl) ?_
      refine lv_iload hx hb dX12_append_34 (lv_at hl 0 rfl) ?_
      refine lv_aload_n hx hb dX12_append_36 rfl (lv_at hl 2 rfl) ?_
      obtain ⟨o12, h13, hf⟩ := gw_bind hf
      refine gw_Vi (As := []) (mc' := 0) (ms' := 0) F hW (mMX12_freeBlocks_0 h13) (cwV 0 hts (gT_V q_7_21 q_7_23 qp_42 q_1_12 q_7_24) rfl rfl rfl hdX12_freeBlocks ⟨Nat.le_of_ble_eq_true rfl, Nat.le_of_ble_eq_true rfl⟩) 0 10 (aM_0 K o9.2) rfl rfl hl.1 rfl (Nat.le_of_ble_eq_true rfl) dX12_append_37 ⟨Nat.le_of_ble_eq_true rfl, Nat.le_of_ble_eq_true rfl⟩ rfl rfl (fun H locs hW => ?_)
      refine lv_icmp_le (tgt := 47) hx hb dX12_append_40 (by decide) (fun c15 => ?_) (fun c15 => ?_)
      · replace hf := (if_pos c15).symm.trans hf
        refine lv_iconst (v := (0 : Int32)) hx hb dX12_append_47 (by decide) ?_
        exact wMX12_append_0_48 F x1 x2 x3 x4 (σ.2.1 7 x1.toNatClampNeg) (0 : Int32) _ _ hf _ _ _ (lv_sub hl [2, 3, 4, 5, 6, 1] rfl) hW
      · replace hf := (if_neg c15).symm.trans hf
        refine lv_iconst (v := (1 : Int32)) hx hb dX12_append_43 (by decide) ?_
        refine lv_goto (tgt := 48) hx hb dX12_append_44 (by decide) ?_
        exact wMX12_append_0_48 F x1 x2 x3 x4 (σ.2.1 7 x1.toNatClampNeg) (1 : Int32) _ _ hf _ _ _ (lv_sub hl [2, 3, 4, 5, 6, 1] rfl) hW
set_option maxHeartbeats 4000000 in
set_option maxRecDepth 100000 in
theorem mMX12_append_0 {l : Launch} {K : KX} {σ : XS} {x1 : Int32} {x2 : Int32} {x3 : Int32} {x4 : Int32} {o : (Int32 × XS)} (hf : fMX12_append_0 (kn K) x1 x2 x3 x4 σ = some o) : gw_Mi l (kD K) vwCl (tyM K) (wM K) yX12_append wsX12_append rMX12_append_0 [.ref (ka K 0), .int x1, .int x2, .int x3, .int x4] σ o := by
  intro sz
  refine gw_body (cc := cX12_append) (maxL := 10) (yret := some .int) (by decide +kernel) rfl ?_ (Nat.le_of_ble_eq_true rfl)
  intro p e s m below meth c F hsz hW ls hl
  exact wMX12_append_0_0 F x1 x2 x3 x4 σ o hf s.heap [] ls hl hW
abbrev rMX12_noFile_0 : Room := { frames := 5, cells := 0, slots := 0, locals := 110 }
set_option maxHeartbeats 4000000 in
set_option maxRecDepth 100000 in
theorem wMX12_noFile_0_42 {p : Program} {l : Launch} {e : Env} {s : State} {m : MethodId} {args : Array Value} {below : List Frame} {meth : Method} {c : Code} {A : Nat → Prop} {K : KX} (F : fx_ p s m args meth c cX12_noFile 3 (some .boolean) RX12 wsX12_noFile) (σ : XS) (o : (Int32 × XS)) (hf : fMX12_noFile_0_42 (kn K) σ = some o) (H : Heap) (locs : List Loc) (ls : Array Slot) (hl : lv_has ls 3 []) (hW : gw_ (kD K) vwCl (tyM K) (wM K) A s σ H locs) : W p l e rMX12_noFile_0 s m args below meth c H locs 0 0 (MQ below (va_Qi (fun r u => (r = o.1 ∧ u = o.2) ∧ (o.1 = 0 ∨ o.1 = 1)) (gw_B (kD K) vwCl (tyM K) (wM K) A) A) args s rMX12_noFile_0.cells rMX12_noFile_0.slots A) (F0 m 42 ls []) := by
  have hx := F.1
  have hb := F.2.1
  have hml := F.2.2.2.1
  have hown := F.2.2.2.2.1
  have hts := F.2.2.2.2.2.1
  have hG : ∀ x ∈ gT, x.before args s = true := fun x h => hts x (List.mem_cons_of_mem _ h)
  unfold fMX12_noFile_0_42 at hf
  refine lv_iconst (v := (1 : Int32)) hx hb dX12_noFile_42 (by decide) ?_
  refine lv_goto (tgt := 47) hx hb dX12_noFile_43 (by decide) ?_
  exact gw_retz F hW hf (Or.inr rfl) dX12_noFile_47
set_option maxHeartbeats 4000000 in
set_option maxRecDepth 100000 in
theorem wMX12_noFile_0_35 {p : Program} {l : Launch} {e : Env} {s : State} {m : MethodId} {args : Array Value} {below : List Frame} {meth : Method} {c : Code} {A : Nat → Prop} {K : KX} (F : fx_ p s m args meth c cX12_noFile 3 (some .boolean) RX12 wsX12_noFile) (y0 : Int32) (σ : XS) (o : (Int32 × XS)) (hf : fMX12_noFile_0_35 (kn K) y0 σ = some o) (H : Heap) (locs : List Loc) (ls : Array Slot) (hl : lv_has ls 3 []) (hW : gw_ (kD K) vwCl (tyM K) (wM K) A s σ H locs) : W p l e rMX12_noFile_0 s m args below meth c H locs 0 0 (MQ below (va_Qi (fun r u => (r = o.1 ∧ u = o.2) ∧ (o.1 = 0 ∨ o.1 = 1)) (gw_B (kD K) vwCl (tyM K) (wM K) A) A) args s rMX12_noFile_0.cells rMX12_noFile_0.slots A) (F0 m 35 ls [.int y0, .ref (ka K 0)]) := by
  have hx := F.1
  have hb := F.2.1
  have hml := F.2.2.2.1
  have hown := F.2.2.2.2.1
  have hts := F.2.2.2.2.2.1
  have hG : ∀ x ∈ gT, x.before args s = true := fun x h => hts x (List.mem_cons_of_mem _ h)
  unfold fMX12_noFile_0_35 at hf
  refine lv_iconst (v := (3 : Int32)) hx hb dX12_noFile_35 (by decide) ?_
  obtain ⟨o10, h11, hf⟩ := gw_bind hf
  refine gw_Vz (As := [.int y0, .int (3 : Int32)]) (mc' := 0) (ms' := 0) F hW (mMX12_fails_0 h11) (cwV 2 hts (gT_V q_7_87 q_7_89 qp_52 q_1_12 q_7_90) rfl rfl rfl hdX12_fails ⟨Nat.le_of_ble_eq_true rfl, Nat.le_of_ble_eq_true rfl⟩) 0 10 (aM_0 K σ) rfl rfl hl.1 rfl (Nat.le_of_ble_eq_true rfl) dX12_noFile_36 ⟨Nat.le_of_ble_eq_true rfl, Nat.le_of_ble_eq_true rfl⟩ rfl rfl (fun H locs z12 hW => ?_)
  refine lv_if_eq (tgt := 46) hx hb dX12_noFile_39 (by decide) (fun c13 => ?_) (fun c13 => ?_)
  · replace hf := (if_pos c13).symm.trans hf
    refine lv_iconst (v := (0 : Int32)) hx hb dX12_noFile_46 (by decide) ?_
    exact gw_retz F hW hf (Or.inl rfl) dX12_noFile_47
  · replace hf := (if_neg c13).symm.trans hf
    exact wMX12_noFile_0_42 F _ _ hf _ _ _ (lv_sub hl [] rfl) hW
set_option maxHeartbeats 4000000 in
set_option maxRecDepth 100000 in
theorem wMX12_noFile_0_30 {p : Program} {l : Launch} {e : Env} {s : State} {m : MethodId} {args : Array Value} {below : List Frame} {meth : Method} {c : Code} {A : Nat → Prop} {K : KX} (F : fx_ p s m args meth c cX12_noFile 3 (some .boolean) RX12 wsX12_noFile) (σ : XS) (o : (Int32 × XS)) (hf : fMX12_noFile_0_30 (kn K) σ = some o) (H : Heap) (locs : List Loc) (ls : Array Slot) (hl : lv_has ls 3 []) (hW : gw_ (kD K) vwCl (tyM K) (wM K) A s σ H locs) : W p l e rMX12_noFile_0 s m args below meth c H locs 0 0 (MQ below (va_Qi (fun r u => (r = o.1 ∧ u = o.2) ∧ (o.1 = 0 ∨ o.1 = 1)) (gw_B (kD K) vwCl (tyM K) (wM K) A) A) args s rMX12_noFile_0.cells rMX12_noFile_0.slots A) (F0 m 30 ls [.ref (ka K 0)]) := by
  have hx := F.1
  have hb := F.2.1
  have hml := F.2.2.2.1
  have hown := F.2.2.2.2.1
  have hts := F.2.2.2.2.2.1
  have hG : ∀ x ∈ gT, x.before args s = true := fun x h => hts x (List.mem_cons_of_mem _ h)
  unfold fMX12_noFile_0_30 at hf
  refine lv_iconst (v := (1 : Int32)) hx hb dX12_noFile_30 (by decide) ?_
  refine lv_goto (tgt := 35) hx hb dX12_noFile_31 (by decide) ?_
  exact wMX12_noFile_0_35 F (1 : Int32) _ _ hf _ _ _ (lv_sub hl [] rfl) hW
set_option maxHeartbeats 4000000 in
set_option maxRecDepth 100000 in
theorem wMX12_noFile_0_0 {p : Program} {l : Launch} {e : Env} {s : State} {m : MethodId} {args : Array Value} {below : List Frame} {meth : Method} {c : Code} {A : Nat → Prop} {K : KX} (F : fx_ p s m args meth c cX12_noFile 3 (some .boolean) RX12 wsX12_noFile) (x1 : Int32) (x2 : Int32) (σ : XS) (o : (Int32 × XS)) (hf : fMX12_noFile_0_0 (kn K) x1 x2 σ = some o) (H : Heap) (locs : List Loc) (ls : Array Slot) (hl : lv_has ls 3 [(0, .ref (ka K 0)), (1, .int x1), (2, .int x2)]) (hW : gw_ (kD K) vwCl (tyM K) (wM K) A s σ H locs) : W p l e rMX12_noFile_0 s m args below meth c H locs 0 0 (MQ below (va_Qi (fun r u => (r = o.1 ∧ u = o.2) ∧ (o.1 = 0 ∨ o.1 = 1)) (gw_B (kD K) vwCl (tyM K) (wM K) A) A) args s rMX12_noFile_0.cells rMX12_noFile_0.slots A) (F0 m 0 ls []) := by
  have hx := F.1
  have hb := F.2.1
  have hml := F.2.2.2.1
  have hown := F.2.2.2.2.1
  have hts := F.2.2.2.2.2.1
  have hG : ∀ x ∈ gT, x.before args s = true := fun x h => hts x (List.mem_cons_of_mem _ h)
  unfold fMX12_noFile_0_0 at hf
  refine lv_aload_n hx hb dX12_noFile_0 rfl (lv_at hl 0 rfl) ?_
  refine lv_iload_n hx hb dX12_noFile_1 rfl (lv_at hl 1 rfl) ?_
  obtain ⟨o1, h2, hf⟩ := gw_bind hf
  refine gw_Vz (As := [.int x1]) (mc' := 0) (ms' := 0) F hW (mMX12_no_0 h2) (cwV 1 hts (gT_V q_7_116 q_7_118 qp_58 q_1_12 q_7_119) rfl rfl rfl hdX12_no ⟨Nat.le_of_ble_eq_true rfl, Nat.le_of_ble_eq_true rfl⟩) 0 10 (aM_0 K σ) rfl rfl hl.1 rfl (Nat.le_of_ble_eq_true rfl) dX12_noFile_2 ⟨Nat.le_of_ble_eq_true rfl, Nat.le_of_ble_eq_true rfl⟩ rfl rfl (fun H locs z3 hW => ?_)
  refine lv_if_ne (tgt := 42) hx hb dX12_noFile_5 (by decide) (fun c4 => ?_) (fun c4 => ?_)
  · replace hf := (if_neg c4).symm.trans hf
    exact wMX12_noFile_0_42 F _ _ hf _ _ _ (lv_sub hl [] rfl) hW
  · replace hf := (if_pos c4).symm.trans hf
    refine lv_aload_n hx hb dX12_noFile_8 rfl (lv_at hl 0 rfl) ?_
    refine lv_aload_n hx hb dX12_noFile_9 rfl (lv_at hl 0 rfl) ?_
    refine gw_get (v := .ref (ka K 7)) F inc_X12 hW 0 10 16 (aM_0 K o1.2) rfl (by decide) (hG _ q_6_128) (fun _ h9 => h9) rfl dX12_noFile_10 ?_
    refine lv_aload_n hx hb dX12_noFile_13 rfl (lv_at hl 0 rfl) ?_
    refine lv_aload_n hx hb dX12_noFile_14 rfl (lv_at hl 0 rfl) ?_
    refine gw_get (v := .int (o1.2.1 10)) F inc_X12 hW 0 10 28 (aM_0 K o1.2) rfl (by decide) (hG _ q_6_140) (fun _ h9 => h9) rfl dX12_noFile_15 ?_
    obtain ⟨o5, h6, hf⟩ := gw_bind hf
    refine gw_Vi (As := [.int (o1.2.1 10)]) (mc' := 0) (ms' := 0) F hW (mMX12_four_0 h6) (cwV 1 hts (gT_V q_7_99 q_7_101 qp_55 q_1_12 q_7_102) rfl rfl rfl hdX12_four ⟨Nat.le_of_ble_eq_true rfl, Nat.le_of_ble_eq_true rfl⟩) 0 10 (aM_0 K o1.2) rfl rfl hl.1 rfl (Nat.le_of_ble_eq_true rfl) dX12_noFile_18 ⟨Nat.le_of_ble_eq_true rfl, Nat.le_of_ble_eq_true rfl⟩ rfl rfl (fun H locs hW => ?_)
    rcases Decidable.em (o5.1 < 0 ∨ 2100 ≤ o5.1.toNatClampNeg) with c8 | c8
    · replace hf := (if_pos c8).symm.trans hf
      exact absurd hf (by simp)
    · replace hf := (if_neg c8).symm.trans hf
      refine gw_iald F hW 7 6 (aM_7 K o5.2) rfl c8 dX12_noFile_21 ?_
      refine lv_iconst (v := (1 : Int32)) hx hb dX12_noFile_22 (by decide) ?_
      refine lv_icmp_ne (tgt := 30) hx hb dX12_noFile_23 (by decide) (fun c9 => ?_) (fun c9 => ?_)
      · replace hf := (if_neg c9).symm.trans hf
        exact wMX12_noFile_0_30 F _ _ hf _ _ _ (lv_sub hl [] rfl) hW
      · replace hf := (if_pos c9).symm.trans hf
        refine lv_iload_n hx hb dX12_noFile_26 rfl (lv_at hl 2 rfl) ?_
        refine lv_if_eq (tgt := 34) hx hb dX12_noFile_27 (by decide) (fun c14 => ?_) (fun c14 => ?_)
        · replace hf := (if_pos c14).symm.trans hf
          refine lv_iconst (v := (0 : Int32)) hx hb dX12_noFile_34 (by decide) ?_
          exact wMX12_noFile_0_35 F (0 : Int32) _ _ hf _ _ _ (lv_sub hl [] rfl) hW
        · replace hf := (if_neg c14).symm.trans hf
          exact wMX12_noFile_0_30 F _ _ hf _ _ _ (lv_sub hl [] rfl) hW
set_option maxHeartbeats 4000000 in
set_option maxRecDepth 100000 in
theorem mMX12_noFile_0 {l : Launch} {K : KX} {σ : XS} {x1 : Int32} {x2 : Int32} {o : (Int32 × XS)} (hf : fMX12_noFile_0 (kn K) x1 x2 σ = some o) : gw_Mz l (kD K) vwCl (tyM K) (wM K) yX12_noFile wsX12_noFile rMX12_noFile_0 [.ref (ka K 0), .int x1, .int x2] σ o := by
  intro sz
  refine gw_body (cc := cX12_noFile) (maxL := 3) (yret := some .boolean) (by decide +kernel) rfl ?_ (Nat.le_of_ble_eq_true rfl)
  intro p e s m below meth c F hsz hW ls hl
  exact wMX12_noFile_0_0 F x1 x2 σ o hf s.heap [] ls hl hW
abbrev rMX12_write_0 : Room := { frames := 6, cells := 0, slots := 0, locals := 132 }
set_option maxHeartbeats 4000000 in
set_option maxRecDepth 100000 in
theorem wMX12_write_0_0 {p : Program} {l : Launch} {e : Env} {s : State} {m : MethodId} {args : Array Value} {below : List Frame} {meth : Method} {c : Code} {A : Nat → Prop} {K : KX} (F : fx_ p s m args meth c cX12_write 3 (some .int) RX12 wsX12_write) (x1 : Int32) (σ : XS) (o : (Int32 × XS)) (hf : fMX12_write_0_0 (kn K) x1 σ = some o) (H : Heap) (locs : List Loc) (ls : Array Slot) (hl : lv_has ls 3 [(0, .ref (ka K 0)), (1, .int x1)]) (hW : gw_ (kD K) vwCl (tyM K) (wM K) A s σ H locs) : W p l e rMX12_write_0 s m args below meth c H locs 0 0 (MQ below (gw_Qi (kD K) vwCl (tyM K) (wM K) A o) args s rMX12_write_0.cells rMX12_write_0.slots A) (F0 m 0 ls []) := by
  have hx := F.1
  have hb := F.2.1
  have hml := F.2.2.2.1
  have hown := F.2.2.2.2.1
  have hts := F.2.2.2.2.2.1
  have hG : ∀ x ∈ gT, x.before args s = true := fun x h => hts x (List.mem_cons_of_mem _ h)
  unfold fMX12_write_0_0 at hf
  refine lv_aload_n hx hb dX12_write_0 rfl (lv_at hl 0 rfl) ?_
  refine gw_get (v := .int (σ.1 1)) F inc_X12 hW 0 10 6 (aM_0 K σ) rfl (by decide) (hG _ q_6_118) (fun _ h9 => h9) rfl dX12_write_1 ?_
  refine lv_istore_n (lv' := [(2, .int (σ.1 1)), (0, .ref (ka K 0)), (1, .int x1)]) hx hb dX12_write_4 rfl hl (by decide) rfl (fun ls hl => ?_)
  refine lv_aload_n hx hb dX12_write_5 rfl (lv_at hl 1 rfl) ?_
  refine lv_iconst (v := (0 : Int32)) hx hb dX12_write_6 (by decide) ?_
  refine gw_put (σ' := (stS σ 1 (0 : Int32))) (ty := .int) F inc_X12 tyX12 tyX12_ok nmX12 hW 0 10 6 (aM_0 K σ) rfl (by decide) (hG _ q_6_118) (fun _ h9 => h9) rfl (by decide +kernel) rfl rfl (Nat.le_of_ble_eq_true rfl) dX12_write_7 (sSM_1 _ _ _) (fun H locs hW => ?_)
  refine lv_aload_n hx hb dX12_write_10 rfl (lv_at hl 1 rfl) ?_
  refine lv_iload_n hx hb dX12_write_11 rfl (lv_at hl 2 rfl) ?_
  refine lv_iconst (v := (0 : Int32)) hx hb dX12_write_12 (by decide) ?_
  obtain ⟨o1, h2, hf⟩ := gw_bind hf
  refine gw_Vz (As := [.int x1, .int (0 : Int32)]) (mc' := 0) (ms' := 0) F hW (mMX12_noFile_0 h2) (cwV 2 hts (gT_V q_7_164 q_7_166 qp_64 q_1_12 q_7_167) rfl rfl rfl hdX12_noFile ⟨Nat.le_of_ble_eq_true rfl, Nat.le_of_ble_eq_true rfl⟩) 0 10 (aM_0 K (stS σ 1 (0 : Int32))) rfl rfl hl.1 rfl (Nat.le_of_ble_eq_true rfl) dX12_write_13 ⟨Nat.le_of_ble_eq_true rfl, Nat.le_of_ble_eq_true rfl⟩ rfl rfl (fun H locs z3 hW => ?_)
  refine lv_if_eq (tgt := 23) hx hb dX12_write_16 (by decide) (fun c4 => ?_) (fun c4 => ?_)
  · replace hf := (if_pos c4).symm.trans hf
    refine lv_aload_n hx hb dX12_write_23 rfl (lv_at hl 1 rfl) ?_
    refine lv_aload_n hx hb dX12_write_24 rfl (lv_at hl 1 rfl) ?_
    refine lv_aload_n hx hb dX12_write_25 rfl (lv_at hl 1 rfl) ?_
    refine gw_get (v := .int (o1.2.1 10)) F inc_X12 hW 0 10 28 (aM_0 K o1.2) rfl (by decide) (hG _ q_6_140) (fun _ h9 => h9) rfl dX12_write_26 ?_
    obtain ⟨o5, h6, hf⟩ := gw_bind hf
    refine gw_Vi (As := [.int (o1.2.1 10)]) (mc' := 0) (ms' := 0) F hW (mMX12_four_0 h6) (cwV 1 hts (gT_V q_7_99 q_7_101 qp_55 q_1_12 q_7_102) rfl rfl rfl hdX12_four ⟨Nat.le_of_ble_eq_true rfl, Nat.le_of_ble_eq_true rfl⟩) 0 10 (aM_0 K o1.2) rfl rfl hl.1 rfl (Nat.le_of_ble_eq_true rfl) dX12_write_29 ⟨Nat.le_of_ble_eq_true rfl, Nat.le_of_ble_eq_true rfl⟩ rfl rfl (fun H locs hW => ?_)
    refine lv_iload_n hx hb dX12_write_32 rfl (lv_at hl 0 rfl) ?_
    refine lv_iconst (v := (1 : Int32)) hx hb dX12_write_33 (by decide) ?_
    refine lv_iconst (v := (0 : Int32)) hx hb dX12_write_34 (by decide) ?_
    obtain ⟨o8, h9, hf⟩ := gw_bind hf
    refine gw_Vi (As := [.int o5.1, .int (σ.1 1), .int (1 : Int32), .int (0 : Int32)]) (mc' := 0) (ms' := 0) F hW (mMX12_append_0 h9) (cwV 4 hts (gT_V q_7_168 q_7_170 qp_65 q_1_12 q_7_171) rfl rfl rfl hdX12_append ⟨Nat.le_of_ble_eq_true rfl, Nat.le_of_ble_eq_true rfl⟩) 0 10 (aM_0 K o5.2) rfl rfl hl.1 rfl (Nat.le_of_ble_eq_true rfl) dX12_write_35 ⟨Nat.le_of_ble_eq_true rfl, Nat.le_of_ble_eq_true rfl⟩ rfl rfl (fun H locs hW => ?_)
    exact gw_reti F hW hf dX12_write_38
  · replace hf := (if_neg c4).symm.trans hf
    refine lv_iconst (v := (0 : Int32)) hx hb dX12_write_19 (by decide) ?_
    refine lv_goto (tgt := 38) hx hb dX12_write_20 (by decide) ?_
    exact gw_reti F hW hf dX12_write_38
set_option maxHeartbeats 4000000 in
set_option maxRecDepth 100000 in
theorem mMX12_write_0 {l : Launch} {K : KX} {σ : XS} {x1 : Int32} {o : (Int32 × XS)} (hf : fMX12_write_0 (kn K) x1 σ = some o) : gw_Mi l (kD K) vwCl (tyM K) (wM K) yX12_write wsX12_write rMX12_write_0 [.ref (ka K 0), .int x1] σ o := by
  intro sz
  refine gw_body (cc := cX12_write) (maxL := 3) (yret := some .int) (by decide +kernel) rfl ?_ (Nat.le_of_ble_eq_true rfl)
  intro p e s m below meth c F hsz hW ls hl
  exact wMX12_write_0_0 F x1 σ o hf s.heap [] ls hl hW
abbrev rMX12_grow_0 : Room := { frames := 6, cells := 0, slots := 0, locals := 132 }
set_option maxHeartbeats 4000000 in
set_option maxRecDepth 100000 in
theorem wMX12_grow_0_17 {p : Program} {l : Launch} {e : Env} {s : State} {m : MethodId} {args : Array Value} {below : List Frame} {meth : Method} {c : Code} {A : Nat → Prop} {K : KX} (F : fx_ p s m args meth c cX12_grow 4 (some .int) RX12 wsX12_grow) (x2 : Int32) (x3 : Int32) (y0 : Int32) (y1 : Int32) (σ : XS) (o : (Int32 × XS)) (hf : fMX12_grow_0_17 (kn K) x2 x3 y0 y1 σ = some o) (H : Heap) (locs : List Loc) (ls : Array Slot) (hl : lv_has ls 4 [(0, .ref (ka K 0)), (2, .int x2), (3, .int x3)]) (hW : gw_ (kD K) vwCl (tyM K) (wM K) A s σ H locs) : W p l e rMX12_grow_0 s m args below meth c H locs 0 0 (MQ below (gw_Qi (kD K) vwCl (tyM K) (wM K) A o) args s rMX12_grow_0.cells rMX12_grow_0.slots A) (F0 m 17 ls [.int y0, .int y1, .ref (ka K 0)]) := by
  have hx := F.1
  have hb := F.2.1
  have hml := F.2.2.2.1
  have hown := F.2.2.2.2.1
  have hts := F.2.2.2.2.2.1
  have hG : ∀ x ∈ gT, x.before args s = true := fun x h => hts x (List.mem_cons_of_mem _ h)
  unfold fMX12_grow_0_17 at hf
  obtain ⟨o2, h3, hf⟩ := gw_bind hf
  refine gw_Vz (As := [.int y1, .int y0]) (mc' := 0) (ms' := 0) F hW (mMX12_noFile_0 h3) (cwV 2 hts (gT_V q_7_164 q_7_166 qp_64 q_1_12 q_7_167) rfl rfl rfl hdX12_noFile ⟨Nat.le_of_ble_eq_true rfl, Nat.le_of_ble_eq_true rfl⟩) 0 10 (aM_0 K σ) rfl rfl hl.1 rfl (Nat.le_of_ble_eq_true rfl) dX12_grow_17 ⟨Nat.le_of_ble_eq_true rfl, Nat.le_of_ble_eq_true rfl⟩ rfl rfl (fun H locs z4 hW => ?_)
  refine lv_if_eq (tgt := 27) hx hb dX12_grow_20 (by decide) (fun c5 => ?_) (fun c5 => ?_)
  · replace hf := (if_pos c5).symm.trans hf
    refine lv_aload_n hx hb dX12_grow_27 rfl (lv_at hl 0 rfl) ?_
    refine lv_aload_n hx hb dX12_grow_28 rfl (lv_at hl 0 rfl) ?_
    refine lv_aload_n hx hb dX12_grow_29 rfl (lv_at hl 0 rfl) ?_
    refine gw_get (v := .int (o2.2.1 10)) F inc_X12 hW 0 10 28 (aM_0 K o2.2) rfl (by decide) (hG _ q_6_140) (fun _ h9 => h9) rfl dX12_grow_30 ?_
    obtain ⟨o6, h7, hf⟩ := gw_bind hf
    refine gw_Vi (As := [.int (o2.2.1 10)]) (mc' := 0) (ms' := 0) F hW (mMX12_four_0 h7) (cwV 1 hts (gT_V q_7_99 q_7_101 qp_55 q_1_12 q_7_102) rfl rfl rfl hdX12_four ⟨Nat.le_of_ble_eq_true rfl, Nat.le_of_ble_eq_true rfl⟩) 0 10 (aM_0 K o2.2) rfl rfl hl.1 rfl (Nat.le_of_ble_eq_true rfl) dX12_grow_33 ⟨Nat.le_of_ble_eq_true rfl, Nat.le_of_ble_eq_true rfl⟩ rfl rfl (fun H locs hW => ?_)
    refine lv_iload_n hx hb dX12_grow_36 rfl (lv_at hl 1 rfl) ?_
    refine lv_iconst (v := (0 : Int32)) hx hb dX12_grow_37 (by decide) ?_
    refine lv_iload_n hx hb dX12_grow_38 rfl (lv_at hl 2 rfl) ?_
    obtain ⟨o9, h10, hf⟩ := gw_bind hf
    refine gw_Vi (As := [.int o6.1, .int x2, .int (0 : Int32), .int x3]) (mc' := 0) (ms' := 0) F hW (mMX12_append_0 h10) (cwV 4 hts (gT_V q_7_168 q_7_170 qp_65 q_1_12 q_7_171) rfl rfl rfl hdX12_append ⟨Nat.le_of_ble_eq_true rfl, Nat.le_of_ble_eq_true rfl⟩) 0 10 (aM_0 K o6.2) rfl rfl hl.1 rfl (Nat.le_of_ble_eq_true rfl) dX12_grow_39 ⟨Nat.le_of_ble_eq_true rfl, Nat.le_of_ble_eq_true rfl⟩ rfl rfl (fun H locs hW => ?_)
    exact gw_reti F hW hf dX12_grow_42
  · replace hf := (if_neg c5).symm.trans hf
    refine lv_iconst (v := (0 : Int32)) hx hb dX12_grow_23 (by decide) ?_
    refine lv_goto (tgt := 42) hx hb dX12_grow_24 (by decide) ?_
    exact gw_reti F hW hf dX12_grow_42
set_option maxHeartbeats 4000000 in
set_option maxRecDepth 100000 in
theorem wMX12_grow_0_12 {p : Program} {l : Launch} {e : Env} {s : State} {m : MethodId} {args : Array Value} {below : List Frame} {meth : Method} {c : Code} {A : Nat → Prop} {K : KX} (F : fx_ p s m args meth c cX12_grow 4 (some .int) RX12 wsX12_grow) (x2 : Int32) (x3 : Int32) (y0 : Int32) (σ : XS) (o : (Int32 × XS)) (hf : fMX12_grow_0_12 (kn K) x2 x3 y0 σ = some o) (H : Heap) (locs : List Loc) (ls : Array Slot) (hl : lv_has ls 4 [(0, .ref (ka K 0)), (2, .int x2), (3, .int x3)]) (hW : gw_ (kD K) vwCl (tyM K) (wM K) A s σ H locs) : W p l e rMX12_grow_0 s m args below meth c H locs 0 0 (MQ below (gw_Qi (kD K) vwCl (tyM K) (wM K) A o) args s rMX12_grow_0.cells rMX12_grow_0.slots A) (F0 m 12 ls [.int y0, .ref (ka K 0)]) := by
  have hx := F.1
  have hb := F.2.1
  have hml := F.2.2.2.1
  have hown := F.2.2.2.2.1
  have hts := F.2.2.2.2.2.1
  have hG : ∀ x ∈ gT, x.before args s = true := fun x h => hts x (List.mem_cons_of_mem _ h)
  unfold fMX12_grow_0_12 at hf
  refine lv_iconst (v := (1 : Int32)) hx hb dX12_grow_12 (by decide) ?_
  refine lv_goto (tgt := 17) hx hb dX12_grow_13 (by decide) ?_
  exact wMX12_grow_0_17 F x2 x3 (1 : Int32) y0 _ _ hf _ _ _ (lv_sub hl [0, 1, 2] rfl) hW
set_option maxHeartbeats 4000000 in
set_option maxRecDepth 100000 in
theorem wMX12_grow_0_0 {p : Program} {l : Launch} {e : Env} {s : State} {m : MethodId} {args : Array Value} {below : List Frame} {meth : Method} {c : Code} {A : Nat → Prop} {K : KX} (F : fx_ p s m args meth c cX12_grow 4 (some .int) RX12 wsX12_grow) (x1 : Int32) (x2 : Int32) (x3 : Int32) (σ : XS) (o : (Int32 × XS)) (hf : fMX12_grow_0_0 (kn K) x1 x2 x3 σ = some o) (H : Heap) (locs : List Loc) (ls : Array Slot) (hl : lv_has ls 4 [(0, .ref (ka K 0)), (1, .int x1), (2, .int x2), (3, .int x3)]) (hW : gw_ (kD K) vwCl (tyM K) (wM K) A s σ H locs) : W p l e rMX12_grow_0 s m args below meth c H locs 0 0 (MQ below (gw_Qi (kD K) vwCl (tyM K) (wM K) A o) args s rMX12_grow_0.cells rMX12_grow_0.slots A) (F0 m 0 ls []) := by
  have hx := F.1
  have hb := F.2.1
  have hml := F.2.2.2.1
  have hown := F.2.2.2.2.1
  have hts := F.2.2.2.2.2.1
  have hG : ∀ x ∈ gT, x.before args s = true := fun x h => hts x (List.mem_cons_of_mem _ h)
  unfold fMX12_grow_0_0 at hf
  refine lv_aload_n hx hb dX12_grow_0 rfl (lv_at hl 0 rfl) ?_
  refine lv_iload_n hx hb dX12_grow_1 rfl (lv_at hl 1 rfl) ?_
  refine lv_iload_n hx hb dX12_grow_2 rfl (lv_at hl 2 rfl) ?_
  refine lv_if_lt (tgt := 12) hx hb dX12_grow_3 (by decide) (fun c1 => ?_) (fun c1 => ?_)
  · replace hf := (if_pos c1).symm.trans hf
    exact wMX12_grow_0_12 F x2 x3 x1 _ _ hf _ _ _ (lv_sub hl [0, 2, 3] rfl) hW
  · replace hf := (if_neg c1).symm.trans hf
    refine lv_iload_n hx hb dX12_grow_6 rfl (lv_at hl 2 rfl) ?_
    refine lv_ldc (own := RX12) (v := (400000 : Int32)) hx hb hown (hts _ (List.mem_cons_of_mem _ q_7_176)) dX12_grow_7 ?_
    refine lv_icmp_le (tgt := 16) hx hb dX12_grow_9 (by decide) (fun c12 => ?_) (fun c12 => ?_)
    · replace hf := (if_pos c12).symm.trans hf
      refine lv_iconst (v := (0 : Int32)) hx hb dX12_grow_16 (by decide) ?_
      exact wMX12_grow_0_17 F x2 x3 (0 : Int32) x1 _ _ hf _ _ _ (lv_sub hl [0, 2, 3] rfl) hW
    · replace hf := (if_neg c12).symm.trans hf
      exact wMX12_grow_0_12 F x2 x3 x1 _ _ hf _ _ _ (lv_sub hl [0, 2, 3] rfl) hW
set_option maxHeartbeats 4000000 in
set_option maxRecDepth 100000 in
theorem mMX12_grow_0 {l : Launch} {K : KX} {σ : XS} {x1 : Int32} {x2 : Int32} {x3 : Int32} {o : (Int32 × XS)} (hf : fMX12_grow_0 (kn K) x1 x2 x3 σ = some o) : gw_Mi l (kD K) vwCl (tyM K) (wM K) yX12_grow wsX12_grow rMX12_grow_0 [.ref (ka K 0), .int x1, .int x2, .int x3] σ o := by
  intro sz
  refine gw_body (cc := cX12_grow) (maxL := 4) (yret := some .int) (by decide +kernel) rfl ?_ (Nat.le_of_ble_eq_true rfl)
  intro p e s m below meth c F hsz hW ls hl
  exact wMX12_grow_0_0 F x1 x2 x3 σ o hf s.heap [] ls hl hW
abbrev rMX12_cut_0 : Room := { frames := 6, cells := 0, slots := 0, locals := 132 }
set_option maxHeartbeats 4000000 in
set_option maxRecDepth 100000 in
theorem wMX12_cut_0_40 {p : Program} {l : Launch} {e : Env} {s : State} {m : MethodId} {args : Array Value} {below : List Frame} {meth : Method} {c : Code} {A : Nat → Prop} {K : KX} (F : fx_ p s m args meth c cX12_cut 5 (some .int) RX12 wsX12_cut) (x2 : Int32) (y0 : Int32) (σ : XS) (o : (Int32 × XS)) (hf : fMX12_cut_0_40 (kn K) x2 y0 σ = some o) (H : Heap) (locs : List Loc) (ls : Array Slot) (hl : lv_has ls 5 [(0, .ref (ka K 0)), (2, .int x2)]) (hW : gw_ (kD K) vwCl (tyM K) (wM K) A s σ H locs) : W p l e rMX12_cut_0 s m args below meth c H locs 0 0 (MQ below (gw_Qi (kD K) vwCl (tyM K) (wM K) A o) args s rMX12_cut_0.cells rMX12_cut_0.slots A) (F0 m 40 ls [.int y0, .ref (ka K 0)]) := by
  have hx := F.1
  have hb := F.2.1
  have hml := F.2.2.2.1
  have hown := F.2.2.2.2.1
  have hts := F.2.2.2.2.2.1
  have hG : ∀ x ∈ gT, x.before args s = true := fun x h => hts x (List.mem_cons_of_mem _ h)
  unfold fMX12_cut_0_40 at hf
  refine lv_iconst (v := (3 : Int32)) hx hb dX12_cut_40 (by decide) ?_
  obtain ⟨o11, h12, hf⟩ := gw_bind hf
  refine gw_Vz (As := [.int y0, .int (3 : Int32)]) (mc' := 0) (ms' := 0) F hW (mMX12_fails_0 h12) (cwV 2 hts (gT_V q_7_87 q_7_89 qp_52 q_1_12 q_7_90) rfl rfl rfl hdX12_fails ⟨Nat.le_of_ble_eq_true rfl, Nat.le_of_ble_eq_true rfl⟩) 0 10 (aM_0 K σ) rfl rfl hl.1 rfl (Nat.le_of_ble_eq_true rfl) dX12_cut_41 ⟨Nat.le_of_ble_eq_true rfl, Nat.le_of_ble_eq_true rfl⟩ rfl rfl (fun H locs z13 hW => ?_)
  refine lv_if_eq (tgt := 49) hx hb dX12_cut_44 (by decide) (fun c14 => ?_) (fun c14 => ?_)
  · replace hf := (if_pos c14).symm.trans hf
    refine lv_aload_n hx hb dX12_cut_49 rfl (lv_at hl 0 rfl) ?_
    refine lv_aload_n hx hb dX12_cut_50 rfl (lv_at hl 0 rfl) ?_
    refine gw_get (v := .int (o11.2.1 10)) F inc_X12 hW 0 10 28 (aM_0 K o11.2) rfl (by decide) (hG _ q_6_140) (fun _ h9 => h9) rfl dX12_cut_51 ?_
    obtain ⟨o15, h16, hf⟩ := gw_bind hf
    refine gw_Vi (As := [.int (o11.2.1 10)]) (mc' := 0) (ms' := 0) F hW (mMX12_four_0 h16) (cwV 1 hts (gT_V q_7_99 q_7_101 qp_55 q_1_12 q_7_102) rfl rfl rfl hdX12_four ⟨Nat.le_of_ble_eq_true rfl, Nat.le_of_ble_eq_true rfl⟩) 0 10 (aM_0 K o11.2) rfl rfl hl.1 rfl (Nat.le_of_ble_eq_true rfl) dX12_cut_54 ⟨Nat.le_of_ble_eq_true rfl, Nat.le_of_ble_eq_true rfl⟩ rfl rfl (fun H locs hW => ?_)
    refine lv_istore_n (lv' := [(3, .int o15.1), (0, .ref (ka K 0)), (2, .int x2)]) hx hb dX12_cut_57 rfl hl (by decide) rfl (fun ls hl => ?_)
    refine lv_aload_n hx hb dX12_cut_58 rfl (lv_at hl 1 rfl) ?_
    refine gw_get (v := .ref (ka K 10)) F inc_X12 hW 0 10 19 (aM_0 K o15.2) rfl (by decide) (hG _ q_6_131) (fun _ h9 => h9) rfl dX12_cut_59 ?_
    refine lv_iload_n hx hb dX12_cut_62 rfl (lv_at hl 0 rfl) ?_
    rcases Decidable.em (o15.1 < 0 ∨ 2100 ≤ o15.1.toNatClampNeg) with c18 | c18
    · replace hf := (if_pos c18).symm.trans hf
      exact absurd hf (by simp)
    · replace hf := (if_neg c18).symm.trans hf
      refine gw_iald F hW 10 9 (aM_10 K o15.2) rfl c18 dX12_cut_63 ?_
      obtain ⟨o19, h20, hf⟩ := gw_bind hf
      refine gw_Si (As := [.int (o15.2.2.1 9 o15.1.toNatClampNeg)]) (mc' := 0) (ms' := 0) F hW (mMX12_all h20) (va_cwS 1 hts (gT_S q_7_68 q_7_69 q_1_12 q_7_70) rfl rfl rfl hdX12_all.2 ⟨Nat.le_of_ble_eq_true rfl, Nat.le_of_ble_eq_true rfl⟩) rfl hl.1 rfl (Nat.le_of_ble_eq_true rfl) dX12_cut_64 ⟨Nat.le_of_ble_eq_true rfl, Nat.le_of_ble_eq_true rfl⟩ rfl rfl (fun H locs hW => ?_)
      refine lv_istore (lv' := [(4, .int o19.1), (3, .int o15.1), (0, .ref (ka K 0)), (2, .int x2)]) hx hb dX12_cut_67 hl (by decide) rfl (fun ls hl => ?_)
      refine lv_aload_n hx hb dX12_cut_69 rfl (lv_at hl 2 rfl) ?_
      refine lv_iload_n hx hb dX12_cut_70 rfl (lv_at hl 1 rfl) ?_
      refine lv_iload_n hx hb dX12_cut_71 rfl (lv_at hl 3 rfl) ?_
      refine lv_sipush (v := (1024 : Int32)) hx hb dX12_cut_72 (by decide) ?_
      obtain ⟨o22, h23, hf⟩ := gw_bind hf
      refine gw_Si (As := [.int x2, .int (1024 : Int32)]) (mc' := 0) (ms' := 0) F hW (mMX12_parts h23) (va_cwS 2 hts (gT_S q_6_230 q_6_231 q_1_12 q_6_232) rfl rfl rfl hdX12_parts.2 ⟨Nat.le_of_ble_eq_true rfl, Nat.le_of_ble_eq_true rfl⟩) rfl hl.1 rfl (Nat.le_of_ble_eq_true rfl) dX12_cut_75 ⟨Nat.le_of_ble_eq_true rfl, Nat.le_of_ble_eq_true rfl⟩ rfl rfl (fun H locs hW => ?_)
      obtain ⟨o25, h26, hf⟩ := gw_bind hf
      refine gw_Vv (As := [.int o15.1, .int o22.1]) (mc' := 0) (ms' := 0) F hW (mMX12_keep_0 h26) (cwV 2 hts (gT_V q_7_181 q_7_183 qp_66 q_1_12 q_7_184) rfl rfl rfl hdX12_keep ⟨Nat.le_of_ble_eq_true rfl, Nat.le_of_ble_eq_true rfl⟩) 0 10 (aM_0 K o22.2) rfl rfl hl.1 rfl (Nat.le_of_ble_eq_true rfl) dX12_cut_78 ⟨Nat.le_of_ble_eq_true rfl, Nat.le_of_ble_eq_true rfl⟩ rfl rfl (fun H locs hW => ?_)
      refine lv_aload_n hx hb dX12_cut_81 rfl (lv_at hl 2 rfl) ?_
      refine gw_get (v := .ref (ka K 8)) F inc_X12 hW 0 10 17 (aM_0 K o25) rfl (by decide) (hG _ q_6_129) (fun _ h9 => h9) rfl dX12_cut_82 ?_
      refine lv_iload_n hx hb dX12_cut_85 rfl (lv_at hl 1 rfl) ?_
      refine lv_iload_n hx hb dX12_cut_86 rfl (lv_at hl 3 rfl) ?_
      rcases Decidable.em (o15.1 < 0 ∨ 2100 ≤ o15.1.toNatClampNeg) with c28 | c28
      · replace hf := (if_pos c28).symm.trans hf
        exact absurd hf (by simp)
      · replace hf := (if_neg c28).symm.trans hf
        refine gw_iast (σ' := (stA o25 7 o15.1.toNatClampNeg x2)) F hW 8 7 (aM_8 K o25) rfl c28 dX12_cut_87 (sAM_7 _ _ _) (fun H locs hW => ?_)
        refine lv_aload_n hx hb dX12_cut_88 rfl (lv_at hl 2 rfl) ?_
        refine lv_iconst (v := (0 : Int32)) hx hb dX12_cut_89 (by decide) ?_
        refine gw_put (σ' := (stS (stA o25 7 o15.1.toNatClampNeg x2) 3 (0 : Int32))) (ty := .boolean) F inc_X12 tyX12 tyX12_ok nmX12 hW 0 10 8 (aM_0 K (stA o25 7 o15.1.toNatClampNeg x2)) rfl (by decide) (hG _ q_6_120) (fun _ h9 => h9) rfl (by decide +kernel) rfl rfl (Nat.le_of_ble_eq_true rfl) dX12_cut_90 (sSM_3 _ _ _) (fun H locs hW => ?_)
        refine lv_iload hx hb dX12_cut_93 (lv_at hl 0 rfl) ?_
        refine lv_aload_n hx hb dX12_cut_95 rfl (lv_at hl 2 rfl) ?_
        refine gw_get (v := .ref (ka K 10)) F inc_X12 hW 0 10 19 (aM_0 K (stS (stA o25 7 o15.1.toNatClampNeg x2) 3 (0 : Int32))) rfl (by decide) (hG _ q_6_131) (fun _ h9 => h9) rfl dX12_cut_96 ?_
        refine lv_iload_n hx hb dX12_cut_99 rfl (lv_at hl 1 rfl) ?_
        rcases Decidable.em (o15.1 < 0 ∨ 2100 ≤ o15.1.toNatClampNeg) with c29 | c29
        · replace hf := (if_pos c29).symm.trans hf
          exact absurd hf (by simp)
        · replace hf := (if_neg c29).symm.trans hf
          refine gw_iald F hW 10 9 (aM_10 K (stS (stA o25 7 o15.1.toNatClampNeg x2) 3 (0 : Int32))) rfl c29 dX12_cut_100 ?_
          obtain ⟨o30, h31, hf⟩ := gw_bind hf
          refine gw_Si (As := [.int ((stS (stA o25 7 o15.1.toNatClampNeg x2) 3 (0 : Int32)).2.1 9 o15.1.toNatClampNeg)]) (mc' := 0) (ms' := 0) F hW (mMX12_all h31) (va_cwS 1 hts (gT_S q_7_68 q_7_69 q_1_12 q_7_70) rfl rfl rfl hdX12_all.2 ⟨Nat.le_of_ble_eq_true rfl, Nat.le_of_ble_eq_true rfl⟩) rfl hl.1 rfl (Nat.le_of_ble_eq_true rfl) dX12_cut_101 ⟨Nat.le_of_ble_eq_true rfl, Nat.le_of_ble_eq_true rfl⟩ rfl rfl (fun H locs hW => ?_)
          refine lv_isub hx hb dX12_cut_104 ?_
          exact gw_reti F hW hf dX12_cut_105
  · replace hf := (if_neg c14).symm.trans hf
    refine lv_iconst (v := (0 : Int32)) hx hb dX12_cut_47 (by decide) ?_
    exact gw_reti F hW hf dX12_cut_48
set_option maxHeartbeats 4000000 in
set_option maxRecDepth 100000 in
theorem wMX12_cut_0_11 {p : Program} {l : Launch} {e : Env} {s : State} {m : MethodId} {args : Array Value} {below : List Frame} {meth : Method} {c : Code} {A : Nat → Prop} {K : KX} (F : fx_ p s m args meth c cX12_cut 5 (some .int) RX12 wsX12_cut) (x2 : Int32) (y0 : Int32) (y1 : Int32) (σ : XS) (o : (Int32 × XS)) (hf : fMX12_cut_0_11 (kn K) x2 y0 y1 σ = some o) (H : Heap) (locs : List Loc) (ls : Array Slot) (hl : lv_has ls 5 [(0, .ref (ka K 0)), (2, .int x2)]) (hW : gw_ (kD K) vwCl (tyM K) (wM K) A s σ H locs) : W p l e rMX12_cut_0 s m args below meth c H locs 0 0 (MQ below (gw_Qi (kD K) vwCl (tyM K) (wM K) A o) args s rMX12_cut_0.cells rMX12_cut_0.slots A) (F0 m 11 ls [.int y0, .int y1, .ref (ka K 0)]) := by
  have hx := F.1
  have hb := F.2.1
  have hml := F.2.2.2.1
  have hown := F.2.2.2.2.1
  have hts := F.2.2.2.2.2.1
  have hG : ∀ x ∈ gT, x.before args s = true := fun x h => hts x (List.mem_cons_of_mem _ h)
  unfold fMX12_cut_0_11 at hf
  obtain ⟨o2, h3, hf⟩ := gw_bind hf
  refine gw_Vz (As := [.int y1, .int y0]) (mc' := 0) (ms' := 0) F hW (mMX12_noFile_0 h3) (cwV 2 hts (gT_V q_7_164 q_7_166 qp_64 q_1_12 q_7_167) rfl rfl rfl hdX12_noFile ⟨Nat.le_of_ble_eq_true rfl, Nat.le_of_ble_eq_true rfl⟩) 0 10 (aM_0 K σ) rfl rfl hl.1 rfl (Nat.le_of_ble_eq_true rfl) dX12_cut_11 ⟨Nat.le_of_ble_eq_true rfl, Nat.le_of_ble_eq_true rfl⟩ rfl rfl (fun H locs z4 hW => ?_)
  refine lv_if_ne (tgt := 47) hx hb dX12_cut_14 (by decide) (fun c5 => ?_) (fun c5 => ?_)
  · replace hf := (if_neg c5).symm.trans hf
    refine lv_iconst (v := (0 : Int32)) hx hb dX12_cut_47 (by decide) ?_
    exact gw_reti F hW hf dX12_cut_48
  · replace hf := (if_pos c5).symm.trans hf
    refine lv_aload_n hx hb dX12_cut_17 rfl (lv_at hl 0 rfl) ?_
    refine lv_iload_n hx hb dX12_cut_18 rfl (lv_at hl 1 rfl) ?_
    refine lv_aload_n hx hb dX12_cut_19 rfl (lv_at hl 0 rfl) ?_
    refine gw_get (v := .ref (ka K 8)) F inc_X12 hW 0 10 17 (aM_0 K o2.2) rfl (by decide) (hG _ q_6_129) (fun _ h9 => h9) rfl dX12_cut_20 ?_
    refine lv_aload_n hx hb dX12_cut_23 rfl (lv_at hl 0 rfl) ?_
    refine lv_aload_n hx hb dX12_cut_24 rfl (lv_at hl 0 rfl) ?_
    refine gw_get (v := .int (o2.2.1 10)) F inc_X12 hW 0 10 28 (aM_0 K o2.2) rfl (by decide) (hG _ q_6_140) (fun _ h9 => h9) rfl dX12_cut_25 ?_
    obtain ⟨o6, h7, hf⟩ := gw_bind hf
    refine gw_Vi (As := [.int (o2.2.1 10)]) (mc' := 0) (ms' := 0) F hW (mMX12_four_0 h7) (cwV 1 hts (gT_V q_7_99 q_7_101 qp_55 q_1_12 q_7_102) rfl rfl rfl hdX12_four ⟨Nat.le_of_ble_eq_true rfl, Nat.le_of_ble_eq_true rfl⟩) 0 10 (aM_0 K o2.2) rfl rfl hl.1 rfl (Nat.le_of_ble_eq_true rfl) dX12_cut_28 ⟨Nat.le_of_ble_eq_true rfl, Nat.le_of_ble_eq_true rfl⟩ rfl rfl (fun H locs hW => ?_)
    rcases Decidable.em (o6.1 < 0 ∨ 2100 ≤ o6.1.toNatClampNeg) with c9 | c9
    · replace hf := (if_pos c9).symm.trans hf
      exact absurd hf (by simp)
    · replace hf := (if_neg c9).symm.trans hf
      refine gw_iald F hW 8 7 (aM_8 K o6.2) rfl c9 dX12_cut_31 ?_
      refine lv_icmp_le (tgt := 39) hx hb dX12_cut_32 (by decide) (fun c10 => ?_) (fun c10 => ?_)
      · replace hf := (if_pos c10).symm.trans hf
        refine lv_iconst (v := (0 : Int32)) hx hb dX12_cut_39 (by decide) ?_
        exact wMX12_cut_0_40 F x2 (0 : Int32) _ _ hf _ _ _ (lv_sub hl [0, 1] rfl) hW
      · replace hf := (if_neg c10).symm.trans hf
        refine lv_iconst (v := (1 : Int32)) hx hb dX12_cut_35 (by decide) ?_
        refine lv_goto (tgt := 40) hx hb dX12_cut_36 (by decide) ?_
        exact wMX12_cut_0_40 F x2 (1 : Int32) _ _ hf _ _ _ (lv_sub hl [0, 1] rfl) hW
set_option maxHeartbeats 4000000 in
set_option maxRecDepth 100000 in
theorem wMX12_cut_0_0 {p : Program} {l : Launch} {e : Env} {s : State} {m : MethodId} {args : Array Value} {below : List Frame} {meth : Method} {c : Code} {A : Nat → Prop} {K : KX} (F : fx_ p s m args meth c cX12_cut 5 (some .int) RX12 wsX12_cut) (x1 : Int32) (x2 : Int32) (σ : XS) (o : (Int32 × XS)) (hf : fMX12_cut_0_0 (kn K) x1 x2 σ = some o) (H : Heap) (locs : List Loc) (ls : Array Slot) (hl : lv_has ls 5 [(0, .ref (ka K 0)), (1, .int x1), (2, .int x2)]) (hW : gw_ (kD K) vwCl (tyM K) (wM K) A s σ H locs) : W p l e rMX12_cut_0 s m args below meth c H locs 0 0 (MQ below (gw_Qi (kD K) vwCl (tyM K) (wM K) A o) args s rMX12_cut_0.cells rMX12_cut_0.slots A) (F0 m 0 ls []) := by
  have hx := F.1
  have hb := F.2.1
  have hml := F.2.2.2.1
  have hown := F.2.2.2.2.1
  have hts := F.2.2.2.2.2.1
  have hG : ∀ x ∈ gT, x.before args s = true := fun x h => hts x (List.mem_cons_of_mem _ h)
  unfold fMX12_cut_0_0 at hf
  refine lv_aload_n hx hb dX12_cut_0 rfl (lv_at hl 0 rfl) ?_
  refine lv_iload_n hx hb dX12_cut_1 rfl (lv_at hl 1 rfl) ?_
  refine lv_iload_n hx hb dX12_cut_2 rfl (lv_at hl 2 rfl) ?_
  refine lv_if_ge (tgt := 10) hx hb dX12_cut_3 (by decide) (fun c1 => ?_) (fun c1 => ?_)
  · replace hf := (if_pos c1).symm.trans hf
    refine lv_iconst (v := (0 : Int32)) hx hb dX12_cut_10 (by decide) ?_
    exact wMX12_cut_0_11 F x2 (0 : Int32) x1 _ _ hf _ _ _ (lv_sub hl [0, 2] rfl) hW
  · replace hf := (if_neg c1).symm.trans hf
    refine lv_iconst (v := (1 : Int32)) hx hb dX12_cut_6 (by decide) ?_
    refine lv_goto (tgt := 11) hx hb dX12_cut_7 (by decide) ?_
    exact wMX12_cut_0_11 F x2 (1 : Int32) x1 _ _ hf _ _ _ (lv_sub hl [0, 2] rfl) hW
set_option maxHeartbeats 4000000 in
set_option maxRecDepth 100000 in
theorem mMX12_cut_0 {l : Launch} {K : KX} {σ : XS} {x1 : Int32} {x2 : Int32} {o : (Int32 × XS)} (hf : fMX12_cut_0 (kn K) x1 x2 σ = some o) : gw_Mi l (kD K) vwCl (tyM K) (wM K) yX12_cut wsX12_cut rMX12_cut_0 [.ref (ka K 0), .int x1, .int x2] σ o := by
  intro sz
  refine gw_body (cc := cX12_cut) (maxL := 5) (yret := some .int) (by decide +kernel) rfl ?_ (Nat.le_of_ble_eq_true rfl)
  intro p e s m below meth c F hsz hW ls hl
  exact wMX12_cut_0_0 F x1 x2 σ o hf s.heap [] ls hl hW
abbrev rMX12_remove_0 : Room := { frames := 5, cells := 0, slots := 0, locals := 111 }
set_option maxHeartbeats 4000000 in
set_option maxRecDepth 100000 in
theorem wMX12_remove_0_84 {p : Program} {l : Launch} {e : Env} {s : State} {m : MethodId} {args : Array Value} {below : List Frame} {meth : Method} {c : Code} {A : Nat → Prop} {K : KX} (F : fx_ p s m args meth c cX12_remove 5 none RX12 wsX12_remove) (x2 : Int32) (x3 : Int32) (x4 : Int32) (σ : XS) (o : XS) (hf : fMX12_remove_0_84 (kn K) x2 x3 x4 σ = some o) (H : Heap) (locs : List Loc) (ls : Array Slot) (hl : lv_has ls 5 [(0, .ref (ka K 0)), (2, .int x2), (3, .int x3), (4, .int x4)]) (hW : gw_ (kD K) vwCl (tyM K) (wM K) A s σ H locs) : W p l e rMX12_remove_0 s m args below meth c H locs 0 0 (MQ below (gw_Qv (kD K) vwCl (tyM K) (wM K) A o) args s rMX12_remove_0.cells rMX12_remove_0.slots A) (F0 m 84 ls []) := by
  have hx := F.1
  have hb := F.2.1
  have hml := F.2.2.2.1
  have hown := F.2.2.2.2.1
  have hts := F.2.2.2.2.2.1
  have hG : ∀ x ∈ gT, x.before args s = true := fun x h => hts x (List.mem_cons_of_mem _ h)
  unfold fMX12_remove_0_84 at hf
  refine lv_aload_n hx hb dX12_remove_84 rfl (lv_at hl 0 rfl) ?_
  refine lv_iload hx hb dX12_remove_85 (lv_at hl 3 rfl) ?_
  refine lv_iconst (v := (0 : Int32)) hx hb dX12_remove_87 (by decide) ?_
  obtain ⟨o16, h17, hf⟩ := gw_bind hf
  refine gw_Vv (As := [.int x4, .int (0 : Int32)]) (mc' := 0) (ms' := 0) F hW (mMX12_keep_0 h17) (cwV 2 hts (gT_V q_7_181 q_7_183 qp_66 q_1_12 q_7_184) rfl rfl rfl hdX12_keep ⟨Nat.le_of_ble_eq_true rfl, Nat.le_of_ble_eq_true rfl⟩) 0 10 (aM_0 K σ) rfl rfl hl.1 rfl (Nat.le_of_ble_eq_true rfl) dX12_remove_88 ⟨Nat.le_of_ble_eq_true rfl, Nat.le_of_ble_eq_true rfl⟩ rfl rfl (fun H locs hW => ?_)
  refine lv_aload_n hx hb dX12_remove_91 rfl (lv_at hl 0 rfl) ?_
  refine lv_iload hx hb dX12_remove_92 (lv_at hl 3 rfl) ?_
  obtain ⟨o19, h20, hf⟩ := gw_bind hf
  refine gw_Vv (As := [.int x4]) (mc' := 0) (ms' := 0) F hW (mMX12_clear_0 h20) (cwV 1 hts (gT_V q_6_237 q_6_239 qp_36 q_1_12 q_7_0) rfl rfl rfl hdX12_clear ⟨Nat.le_of_ble_eq_true rfl, Nat.le_of_ble_eq_true rfl⟩) 0 10 (aM_0 K o16) rfl rfl hl.1 rfl (Nat.le_of_ble_eq_true rfl) dX12_remove_94 ⟨Nat.le_of_ble_eq_true rfl, Nat.le_of_ble_eq_true rfl⟩ rfl rfl (fun H locs hW => ?_)
  refine lv_aload_n hx hb dX12_remove_97 rfl (lv_at hl 0 rfl) ?_
  refine gw_get (v := .ref (ka K 7)) F inc_X12 hW 0 10 16 (aM_0 K o19) rfl (by decide) (hG _ q_6_128) (fun _ h9 => h9) rfl dX12_remove_98 ?_
  refine lv_iload hx hb dX12_remove_101 (lv_at hl 3 rfl) ?_
  refine lv_iconst (v := (0 : Int32)) hx hb dX12_remove_103 (by decide) ?_
  rcases Decidable.em (x4 < 0 ∨ 2100 ≤ x4.toNatClampNeg) with c22 | c22
  · replace hf := (if_pos c22).symm.trans hf
    exact absurd hf (by simp)
  · replace hf := (if_neg c22).symm.trans hf
    refine gw_iast (σ' := (stA o19 6 x4.toNatClampNeg (0 : Int32))) F hW 7 6 (aM_7 K o19) rfl c22 dX12_remove_104 (sAM_6 _ _ _) (fun H locs hW => ?_)
    refine lv_iload_n hx hb dX12_remove_105 rfl (lv_at hl 2 rfl) ?_
    refine lv_iconst (v := (-1 : Int32)) hx hb dX12_remove_106 (by decide) ?_
    refine lv_icmp_ne (tgt := 120) hx hb dX12_remove_107 (by decide) (fun c23 => ?_) (fun c23 => ?_)
    · replace hf := (if_neg c23).symm.trans hf
      refine lv_aload_n hx hb dX12_remove_120 rfl (lv_at hl 0 rfl) ?_
      refine lv_iload_n hx hb dX12_remove_121 rfl (lv_at hl 2 rfl) ?_
      refine lv_iconst (v := (4 : Int32)) hx hb dX12_remove_122 (by decide) ?_
      refine lv_iadd hx hb dX12_remove_123 ?_
      refine lv_iconst (v := (2 : Int32)) hx hb dX12_remove_124 (by decide) ?_
      refine lv_aload_n hx hb dX12_remove_125 rfl (lv_at hl 0 rfl) ?_
      refine lv_iload_n hx hb dX12_remove_126 rfl (lv_at hl 2 rfl) ?_
      refine lv_iconst (v := (4 : Int32)) hx hb dX12_remove_127 (by decide) ?_
      refine lv_iadd hx hb dX12_remove_128 ?_
      obtain ⟨o24, h25, hf⟩ := gw_bind hf
      refine gw_Vi (As := [.int (x3 + (4 : Int32))]) (mc' := 0) (ms' := 0) F hW (mMX12_two_0 h25) (cwV 1 hts (gT_V q_7_103 q_7_105 qp_56 q_1_12 q_7_106) rfl rfl rfl hdX12_two ⟨Nat.le_of_ble_eq_true rfl, Nat.le_of_ble_eq_true rfl⟩) 0 10 (aM_0 K (stA o19 6 x4.toNatClampNeg (0 : Int32))) rfl rfl hl.1 rfl (Nat.le_of_ble_eq_true rfl) dX12_remove_129 ⟨Nat.le_of_ble_eq_true rfl, Nat.le_of_ble_eq_true rfl⟩ rfl rfl (fun H locs hW => ?_)
      refine lv_aload_n hx hb dX12_remove_132 rfl (lv_at hl 0 rfl) ?_
      refine lv_iload_n hx hb dX12_remove_133 rfl (lv_at hl 1 rfl) ?_
      refine lv_iconst (v := (4 : Int32)) hx hb dX12_remove_134 (by decide) ?_
      refine lv_iadd hx hb dX12_remove_135 ?_
      obtain ⟨o27, h28, hf⟩ := gw_bind hf
      refine gw_Vi (As := [.int (x2 + (4 : Int32))]) (mc' := 0) (ms' := 0) F hW (mMX12_two_0 h28) (cwV 1 hts (gT_V q_7_103 q_7_105 qp_56 q_1_12 q_7_106) rfl rfl rfl hdX12_two ⟨Nat.le_of_ble_eq_true rfl, Nat.le_of_ble_eq_true rfl⟩) 0 10 (aM_0 K o24.2) rfl rfl hl.1 rfl (Nat.le_of_ble_eq_true rfl) dX12_remove_136 ⟨Nat.le_of_ble_eq_true rfl, Nat.le_of_ble_eq_true rfl⟩ rfl rfl (fun H locs hW => ?_)
      refine lv_iadd hx hb dX12_remove_139 ?_
      obtain ⟨o30, h31, hf⟩ := gw_bind hf
      refine gw_Vv (As := [.int (x3 + (4 : Int32)), .int (2 : Int32), .int (o24.1 + o27.1)]) (mc' := 0) (ms' := 0) F hW (mMX12_set_0 h31) (cwV 3 hts (gT_V q_7_17 q_7_19 qp_41 q_1_12 q_7_20) rfl rfl rfl hdX12_set ⟨Nat.le_of_ble_eq_true rfl, Nat.le_of_ble_eq_true rfl⟩) 0 10 (aM_0 K o27.2) rfl rfl hl.1 rfl (Nat.le_of_ble_eq_true rfl) dX12_remove_140 ⟨Nat.le_of_ble_eq_true rfl, Nat.le_of_ble_eq_true rfl⟩ rfl rfl (fun H locs hW => ?_)
      refine lv_aload_n hx hb dX12_remove_143 rfl (lv_at hl 0 rfl) ?_
      refine lv_iconst (v := (0 : Int32)) hx hb dX12_remove_144 (by decide) ?_
      refine gw_put (σ' := (stS o30 3 (0 : Int32))) (ty := .boolean) F inc_X12 tyX12 tyX12_ok nmX12 hW 0 10 8 (aM_0 K o30) rfl (by decide) (hG _ q_6_120) (fun _ h9 => h9) rfl (by decide +kernel) rfl rfl (Nat.le_of_ble_eq_true rfl) dX12_remove_145 (sSM_3 _ _ _) (fun H locs hW => ?_)
      exact gw_retv F hW hf dX12_remove_148
    · replace hf := (if_pos c23).symm.trans hf
      refine lv_aload_n hx hb dX12_remove_110 rfl (lv_at hl 0 rfl) ?_
      refine lv_iload_n hx hb dX12_remove_111 rfl (lv_at hl 1 rfl) ?_
      refine lv_iconst (v := (4 : Int32)) hx hb dX12_remove_112 (by decide) ?_
      refine lv_iconst (v := (0 : Int32)) hx hb dX12_remove_113 (by decide) ?_
      obtain ⟨o33, h34, hf⟩ := gw_bind hf
      refine gw_Vv (As := [.int x2, .int (4 : Int32), .int (0 : Int32)]) (mc' := 0) (ms' := 0) F hW (mMX12_set_0 h34) (cwV 3 hts (gT_V q_7_17 q_7_19 qp_41 q_1_12 q_7_20) rfl rfl rfl hdX12_set ⟨Nat.le_of_ble_eq_true rfl, Nat.le_of_ble_eq_true rfl⟩) 0 10 (aM_0 K (stA o19 6 x4.toNatClampNeg (0 : Int32))) rfl rfl hl.1 rfl (Nat.le_of_ble_eq_true rfl) dX12_remove_114 ⟨Nat.le_of_ble_eq_true rfl, Nat.le_of_ble_eq_true rfl⟩ rfl rfl (fun H locs hW => ?_)
      refine lv_goto (tgt := 143) hx hb dX12_remove_117 (by decide) ?_
      refine lv_aload_n hx hb dX12_remove_143 rfl (lv_at hl 0 rfl) ?_
      refine lv_iconst (v := (0 : Int32)) hx hb dX12_remove_144 (by decide) ?_
      refine gw_put (σ' := (stS o33 3 (0 : Int32))) (ty := .boolean) F inc_X12 tyX12 tyX12_ok nmX12 hW 0 10 8 (aM_0 K o33) rfl (by decide) (hG _ q_6_120) (fun _ h9 => h9) rfl (by decide +kernel) rfl rfl (Nat.le_of_ble_eq_true rfl) dX12_remove_145 (sSM_3 _ _ _) (fun H locs hW => ?_)
      exact gw_retv F hW hf dX12_remove_148
set_option maxHeartbeats 4000000 in
set_option maxRecDepth 100000 in
theorem wMX12_remove_0_52 {p : Program} {l : Launch} {e : Env} {s : State} {m : MethodId} {args : Array Value} {below : List Frame} {meth : Method} {c : Code} {A : Nat → Prop} {K : KX} (F : fx_ p s m args meth c cX12_remove 5 none RX12 wsX12_remove) (x2 : Int32) (x3 : Int32) (x4 : Int32) (y0 : Int32) (σ : XS) (o : XS) (hf : fMX12_remove_0_52 (kn K) x2 x3 x4 y0 σ = some o) (H : Heap) (locs : List Loc) (ls : Array Slot) (hl : lv_has ls 5 [(0, .ref (ka K 0)), (2, .int x2), (3, .int x3), (4, .int x4)]) (hW : gw_ (kD K) vwCl (tyM K) (wM K) A s σ H locs) : W p l e rMX12_remove_0 s m args below meth c H locs 0 0 (MQ below (gw_Qv (kD K) vwCl (tyM K) (wM K) A o) args s rMX12_remove_0.cells rMX12_remove_0.slots A) (F0 m 52 ls [.int y0, .ref (ka K 0)]) := by
  have hx := F.1
  have hb := F.2.1
  have hml := F.2.2.2.1
  have hown := F.2.2.2.2.1
  have hts := F.2.2.2.2.2.1
  have hG : ∀ x ∈ gT, x.before args s = true := fun x h => hts x (List.mem_cons_of_mem _ h)
  unfold fMX12_remove_0_52 at hf
  refine lv_iconst (v := (3 : Int32)) hx hb dX12_remove_52 (by decide) ?_
  obtain ⟨o10, h11, hf⟩ := gw_bind hf
  refine gw_Vz (As := [.int y0, .int (3 : Int32)]) (mc' := 0) (ms' := 0) F hW (mMX12_fails_0 h11) (cwV 2 hts (gT_V q_7_87 q_7_89 qp_52 q_1_12 q_7_90) rfl rfl rfl hdX12_fails ⟨Nat.le_of_ble_eq_true rfl, Nat.le_of_ble_eq_true rfl⟩) 0 10 (aM_0 K σ) rfl rfl hl.1 rfl (Nat.le_of_ble_eq_true rfl) dX12_remove_53 ⟨Nat.le_of_ble_eq_true rfl, Nat.le_of_ble_eq_true rfl⟩ rfl rfl (fun H locs z12 hW => ?_)
  refine lv_if_eq (tgt := 60) hx hb dX12_remove_56 (by decide) (fun c13 => ?_) (fun c13 => ?_)
  · replace hf := (if_pos c13).symm.trans hf
    refine lv_aload_n hx hb dX12_remove_60 rfl (lv_at hl 0 rfl) ?_
    refine gw_get (v := .ref (ka K 7)) F inc_X12 hW 0 10 16 (aM_0 K o10.2) rfl (by decide) (hG _ q_6_128) (fun _ h9 => h9) rfl dX12_remove_61 ?_
    refine lv_iload hx hb dX12_remove_64 (lv_at hl 3 rfl) ?_
    rcases Decidable.em (x4 < 0 ∨ 2100 ≤ x4.toNatClampNeg) with c14 | c14
    · replace hf := (if_pos c14).symm.trans hf
      exact absurd hf (by simp)
    · replace hf := (if_neg c14).symm.trans hf
      refine gw_iald F hW 7 6 (aM_7 K o10.2) rfl c14 dX12_remove_66 ?_
      refine lv_iconst (v := (2 : Int32)) hx hb dX12_remove_67 (by decide) ?_
      refine lv_icmp_ne (tgt := 84) hx hb dX12_remove_68 (by decide) (fun c15 => ?_) (fun c15 => ?_)
      · replace hf := (if_neg c15).symm.trans hf
        exact wMX12_remove_0_84 F x2 x3 x4 _ _ hf _ _ _ (lv_sub hl [0, 1, 2, 3] rfl) hW
      · replace hf := (if_pos c15).symm.trans hf
        refine lv_aload_n hx hb dX12_remove_71 rfl (lv_at hl 0 rfl) ?_
        refine gw_get (v := .ref (ka K 9)) F inc_X12 hW 0 10 18 (aM_0 K o10.2) rfl (by decide) (hG _ q_6_130) (fun _ h9 => h9) rfl dX12_remove_72 ?_
        refine lv_aload_n hx hb dX12_remove_75 rfl (lv_at hl 0 rfl) ?_
        refine gw_get (v := .int (o10.2.1 9)) F inc_X12 hW 0 10 27 (aM_0 K o10.2) rfl (by decide) (hG _ q_6_139) (fun _ h9 => h9) rfl dX12_remove_76 ?_
        refine lv_dup2_11 hx hb dX12_remove_79 rfl rfl ?_
        rcases Decidable.em ((o10.2.1 9) < 0 ∨ 2100 ≤ (o10.2.1 9).toNatClampNeg) with c36 | c36
        · replace hf := (if_pos c36).symm.trans hf
          exact absurd hf (by simp)
        · replace hf := (if_neg c36).symm.trans hf
          refine gw_iald F hW 9 8 (aM_9 K o10.2) rfl c36 dX12_remove_80 ?_
          refine lv_iconst (v := (1 : Int32)) hx hb dX12_remove_81 (by decide) ?_
          refine lv_isub hx hb dX12_remove_82 ?_
          rcases Decidable.em ((o10.2.1 9) < 0 ∨ 2100 ≤ (o10.2.1 9).toNatClampNeg) with c37 | c37
          · replace hf := (if_pos c37).symm.trans hf
            exact absurd hf (by simp)
          · replace hf := (if_neg c37).symm.trans hf
            refine gw_iast (σ' := (stA o10.2 8 (o10.2.1 9).toNatClampNeg ((o10.2.2.1 8 (o10.2.1 9).toNatClampNeg) - (1 : Int32)))) F hW 9 8 (aM_9 K o10.2) rfl c37 dX12_remove_83 (sAM_8 _ _ _) (fun H locs hW => ?_)
            exact wMX12_remove_0_84 F x2 x3 x4 _ _ hf _ _ _ (lv_sub hl [0, 1, 2, 3] rfl) hW
  · replace hf := (if_neg c13).symm.trans hf
    exact gw_retv F hW hf dX12_remove_59
set_option maxHeartbeats 4000000 in
set_option maxRecDepth 100000 in
theorem wMX12_remove_0_51 {p : Program} {l : Launch} {e : Env} {s : State} {m : MethodId} {args : Array Value} {below : List Frame} {meth : Method} {c : Code} {A : Nat → Prop} {K : KX} (F : fx_ p s m args meth c cX12_remove 5 none RX12 wsX12_remove) (x2 : Int32) (x3 : Int32) (x4 : Int32) (σ : XS) (o : XS) (hf : fMX12_remove_0_51 (kn K) x2 x3 x4 σ = some o) (H : Heap) (locs : List Loc) (ls : Array Slot) (hl : lv_has ls 5 [(0, .ref (ka K 0)), (2, .int x2), (3, .int x3), (4, .int x4)]) (hW : gw_ (kD K) vwCl (tyM K) (wM K) A s σ H locs) : W p l e rMX12_remove_0 s m args below meth c H locs 0 0 (MQ below (gw_Qv (kD K) vwCl (tyM K) (wM K) A o) args s rMX12_remove_0.cells rMX12_remove_0.slots A) (F0 m 51 ls [.ref (ka K 0)]) := by
  have hx := F.1
  have hb := F.2.1
  have hml := F.2.2.2.1
  have hown := F.2.2.2.2.1
  have hts := F.2.2.2.2.2.1
  have hG : ∀ x ∈ gT, x.before args s = true := fun x h => hts x (List.mem_cons_of_mem _ h)
  unfold fMX12_remove_0_51 at hf
  refine lv_iconst (v := (0 : Int32)) hx hb dX12_remove_51 (by decide) ?_
  exact wMX12_remove_0_52 F x2 x3 x4 (0 : Int32) _ _ hf _ _ _ (lv_sub hl [0, 1, 2, 3] rfl) hW
set_option maxHeartbeats 4000000 in
set_option maxRecDepth 100000 in
theorem wMX12_remove_0_0 {p : Program} {l : Launch} {e : Env} {s : State} {m : MethodId} {args : Array Value} {below : List Frame} {meth : Method} {c : Code} {A : Nat → Prop} {K : KX} (F : fx_ p s m args meth c cX12_remove 5 none RX12 wsX12_remove) (x1 : Int32) (σ : XS) (o : XS) (hf : fMX12_remove_0_0 (kn K) x1 σ = some o) (H : Heap) (locs : List Loc) (ls : Array Slot) (hl : lv_has ls 5 [(0, .ref (ka K 0)), (1, .int x1)]) (hW : gw_ (kD K) vwCl (tyM K) (wM K) A s σ H locs) : W p l e rMX12_remove_0 s m args below meth c H locs 0 0 (MQ below (gw_Qv (kD K) vwCl (tyM K) (wM K) A o) args s rMX12_remove_0.cells rMX12_remove_0.slots A) (F0 m 0 ls []) := by
  have hx := F.1
  have hb := F.2.1
  have hml := F.2.2.2.1
  have hown := F.2.2.2.2.1
  have hts := F.2.2.2.2.2.1
  have hG : ∀ x ∈ gT, x.before args s = true := fun x h => hts x (List.mem_cons_of_mem _ h)
  unfold fMX12_remove_0_0 at hf
  refine lv_aload_n hx hb dX12_remove_0 rfl (lv_at hl 0 rfl) ?_
  refine lv_iload_n hx hb dX12_remove_1 rfl (lv_at hl 1 rfl) ?_
  obtain ⟨o1, h2, hf⟩ := gw_bind hf
  refine gw_Vz (As := [.int x1]) (mc' := 0) (ms' := 0) F hW (mMX12_no_0 h2) (cwV 1 hts (gT_V q_7_116 q_7_118 qp_58 q_1_12 q_7_119) rfl rfl rfl hdX12_no ⟨Nat.le_of_ble_eq_true rfl, Nat.le_of_ble_eq_true rfl⟩) 0 10 (aM_0 K σ) rfl rfl hl.1 rfl (Nat.le_of_ble_eq_true rfl) dX12_remove_2 ⟨Nat.le_of_ble_eq_true rfl, Nat.le_of_ble_eq_true rfl⟩ rfl rfl (fun H locs z3 hW => ?_)
  refine lv_if_eq (tgt := 9) hx hb dX12_remove_5 (by decide) (fun c4 => ?_) (fun c4 => ?_)
  · replace hf := (if_pos c4).symm.trans hf
    refine lv_aload_n hx hb dX12_remove_9 rfl (lv_at hl 0 rfl) ?_
    refine gw_get (v := .int (o1.2.1 10)) F inc_X12 hW 0 10 28 (aM_0 K o1.2) rfl (by decide) (hG _ q_6_140) (fun _ h9 => h9) rfl dX12_remove_10 ?_
    refine lv_istore_n (lv' := [(2, .int (o1.2.1 10)), (0, .ref (ka K 0)), (1, .int x1)]) hx hb dX12_remove_13 rfl hl (by decide) rfl (fun ls hl => ?_)
    refine lv_aload_n hx hb dX12_remove_14 rfl (lv_at hl 1 rfl) ?_
    refine gw_get (v := .int (o1.2.1 11)) F inc_X12 hW 0 10 29 (aM_0 K o1.2) rfl (by decide) (hG _ q_6_141) (fun _ h9 => h9) rfl dX12_remove_15 ?_
    refine lv_istore_n (lv' := [(3, .int (o1.2.1 11)), (2, .int (o1.2.1 10)), (0, .ref (ka K 0)), (1, .int x1)]) hx hb dX12_remove_18 rfl hl (by decide) rfl (fun ls hl => ?_)
    refine lv_aload_n hx hb dX12_remove_19 rfl (lv_at hl 2 rfl) ?_
    refine lv_iload_n hx hb dX12_remove_20 rfl (lv_at hl 1 rfl) ?_
    obtain ⟨o5, h6, hf⟩ := gw_bind hf
    refine gw_Vi (As := [.int (o1.2.1 10)]) (mc' := 0) (ms' := 0) F hW (mMX12_four_0 h6) (cwV 1 hts (gT_V q_7_99 q_7_101 qp_55 q_1_12 q_7_102) rfl rfl rfl hdX12_four ⟨Nat.le_of_ble_eq_true rfl, Nat.le_of_ble_eq_true rfl⟩) 0 10 (aM_0 K o1.2) rfl rfl hl.1 rfl (Nat.le_of_ble_eq_true rfl) dX12_remove_21 ⟨Nat.le_of_ble_eq_true rfl, Nat.le_of_ble_eq_true rfl⟩ rfl rfl (fun H locs hW => ?_)
    refine lv_istore (lv' := [(4, .int o5.1), (3, .int (o1.2.1 11)), (2, .int (o1.2.1 10)), (0, .ref (ka K 0)), (1, .int x1)]) hx hb dX12_remove_24 hl (by decide) rfl (fun ls hl => ?_)
    refine lv_aload_n hx hb dX12_remove_26 rfl (lv_at hl 3 rfl) ?_
    refine lv_aload_n hx hb dX12_remove_27 rfl (lv_at hl 3 rfl) ?_
    refine gw_get (v := .ref (ka K 7)) F inc_X12 hW 0 10 16 (aM_0 K o5.2) rfl (by decide) (hG _ q_6_128) (fun _ h9 => h9) rfl dX12_remove_28 ?_
    refine lv_iload hx hb dX12_remove_31 (lv_at hl 0 rfl) ?_
    rcases Decidable.em (o5.1 < 0 ∨ 2100 ≤ o5.1.toNatClampNeg) with c8 | c8
    · replace hf := (if_pos c8).symm.trans hf
      exact absurd hf (by simp)
    · replace hf := (if_neg c8).symm.trans hf
      refine gw_iald F hW 7 6 (aM_7 K o5.2) rfl c8 dX12_remove_33 ?_
      refine lv_iconst (v := (2 : Int32)) hx hb dX12_remove_34 (by decide) ?_
      refine lv_icmp_ne (tgt := 51) hx hb dX12_remove_35 (by decide) (fun c9 => ?_) (fun c9 => ?_)
      · replace hf := (if_neg c9).symm.trans hf
        exact wMX12_remove_0_51 F (o1.2.1 10) (o1.2.1 11) o5.1 _ _ hf _ _ _ (lv_sub hl [3, 2, 1, 0] rfl) hW
      · replace hf := (if_pos c9).symm.trans hf
        refine lv_aload_n hx hb dX12_remove_38 rfl (lv_at hl 3 rfl) ?_
        refine lv_iload hx hb dX12_remove_39 (lv_at hl 0 rfl) ?_
        obtain ⟨o38, h39, hf⟩ := gw_bind hf
        refine gw_Vi (As := [.int o5.1]) (mc' := 0) (ms' := 0) F hW (mMX12_count_0 h39) (cwV 1 hts (gT_V q_7_91 q_7_93 qp_53 q_1_12 q_7_94) rfl rfl rfl hdX12_count ⟨Nat.le_of_ble_eq_true rfl, Nat.le_of_ble_eq_true rfl⟩) 0 10 (aM_0 K o5.2) rfl rfl hl.1 rfl (Nat.le_of_ble_eq_true rfl) dX12_remove_41 ⟨Nat.le_of_ble_eq_true rfl, Nat.le_of_ble_eq_true rfl⟩ rfl rfl (fun H locs hW => ?_)
        refine lv_if_le (tgt := 51) hx hb dX12_remove_44 (by decide) (fun c41 => ?_) (fun c41 => ?_)
        · replace hf := (if_pos c41).symm.trans hf
          exact wMX12_remove_0_51 F (o1.2.1 10) (o1.2.1 11) o5.1 _ _ hf _ _ _ (lv_sub hl [3, 2, 1, 0] rfl) hW
        · replace hf := (if_neg c41).symm.trans hf
          refine lv_iconst (v := (1 : Int32)) hx hb dX12_remove_47 (by decide) ?_
          refine lv_goto (tgt := 52) hx hb dX12_remove_48 (by decide) ?_
          exact wMX12_remove_0_52 F (o1.2.1 10) (o1.2.1 11) o5.1 (1 : Int32) _ _ hf _ _ _ (lv_sub hl [3, 2, 1, 0] rfl) hW
  · replace hf := (if_neg c4).symm.trans hf
    exact gw_retv F hW hf dX12_remove_8
set_option maxHeartbeats 4000000 in
set_option maxRecDepth 100000 in
theorem mMX12_remove_0 {l : Launch} {K : KX} {σ : XS} {x1 : Int32} {o : XS} (hf : fMX12_remove_0 (kn K) x1 σ = some o) : gw_Mv l (kD K) vwCl (tyM K) (wM K) yX12_remove wsX12_remove rMX12_remove_0 [.ref (ka K 0), .int x1] σ o := by
  intro sz
  refine gw_body (cc := cX12_remove) (maxL := 5) (yret := none) (by decide +kernel) rfl ?_ (Nat.le_of_ble_eq_true rfl)
  intro p e s m below meth c F hsz hW ls hl
  exact wMX12_remove_0_0 F x1 σ o hf s.heap [] ls hl hW
abbrev rMX12_stamp_0 : Room := { frames := 5, cells := 0, slots := 0, locals := 110 }
set_option maxHeartbeats 4000000 in
set_option maxRecDepth 100000 in
theorem wMX12_stamp_0_23 {p : Program} {l : Launch} {e : Env} {s : State} {m : MethodId} {args : Array Value} {below : List Frame} {meth : Method} {c : Code} {A : Nat → Prop} {K : KX} (F : fx_ p s m args meth c cX12_stamp 5 none RX12 wsX12_stamp) (x2 : Int32) (x3 : Int64) (y0 : Int32) (σ : XS) (o : XS) (hf : fMX12_stamp_0_23 (kn K) x2 x3 y0 σ = some o) (H : Heap) (locs : List Loc) (ls : Array Slot) (hl : lv_has ls 5 [(0, .ref (ka K 0)), (2, .int x2), (3, .long x3)]) (hW : gw_ (kD K) vwCl (tyM K) (wM K) A s σ H locs) : W p l e rMX12_stamp_0 s m args below meth c H locs 0 0 (MQ below (gw_Qv (kD K) vwCl (tyM K) (wM K) A o) args s rMX12_stamp_0.cells rMX12_stamp_0.slots A) (F0 m 23 ls [.int y0, .ref (ka K 0)]) := by
  have hx := F.1
  have hb := F.2.1
  have hml := F.2.2.2.1
  have hown := F.2.2.2.2.1
  have hts := F.2.2.2.2.2.1
  have hG : ∀ x ∈ gT, x.before args s = true := fun x h => hts x (List.mem_cons_of_mem _ h)
  unfold fMX12_stamp_0_23 at hf
  refine lv_iconst (v := (3 : Int32)) hx hb dX12_stamp_23 (by decide) ?_
  obtain ⟨o6, h7, hf⟩ := gw_bind hf
  refine gw_Vz (As := [.int y0, .int (3 : Int32)]) (mc' := 0) (ms' := 0) F hW (mMX12_fails_0 h7) (cwV 2 hts (gT_V q_7_87 q_7_89 qp_52 q_1_12 q_7_90) rfl rfl rfl hdX12_fails ⟨Nat.le_of_ble_eq_true rfl, Nat.le_of_ble_eq_true rfl⟩) 0 10 (aM_0 K σ) rfl rfl hl.1 rfl (Nat.le_of_ble_eq_true rfl) dX12_stamp_24 ⟨Nat.le_of_ble_eq_true rfl, Nat.le_of_ble_eq_true rfl⟩ rfl rfl (fun H locs z8 hW => ?_)
  refine lv_if_eq (tgt := 31) hx hb dX12_stamp_27 (by decide) (fun c9 => ?_) (fun c9 => ?_)
  · replace hf := (if_pos c9).symm.trans hf
    refine lv_aload_n hx hb dX12_stamp_31 rfl (lv_at hl 0 rfl) ?_
    refine gw_get (v := .ref (ka K 17)) F inc_X12 hW 0 10 26 (aM_0 K o6.2) rfl (by decide) (hG _ q_6_138) (fun _ h9 => h9) rfl dX12_stamp_32 ?_
    refine lv_iconst (v := (3 : Int32)) hx hb dX12_stamp_35 (by decide) ?_
    refine lv_aload_n hx hb dX12_stamp_36 rfl (lv_at hl 0 rfl) ?_
    refine lv_aload_n hx hb dX12_stamp_37 rfl (lv_at hl 0 rfl) ?_
    refine gw_get (v := .int (o6.2.1 10)) F inc_X12 hW 0 10 28 (aM_0 K o6.2) rfl (by decide) (hG _ q_6_140) (fun _ h9 => h9) rfl dX12_stamp_38 ?_
    obtain ⟨o10, h11, hf⟩ := gw_bind hf
    refine gw_Vi (As := [.int (o6.2.1 10)]) (mc' := 0) (ms' := 0) F hW (mMX12_four_0 h11) (cwV 1 hts (gT_V q_7_99 q_7_101 qp_55 q_1_12 q_7_102) rfl rfl rfl hdX12_four ⟨Nat.le_of_ble_eq_true rfl, Nat.le_of_ble_eq_true rfl⟩) 0 10 (aM_0 K o6.2) rfl rfl hl.1 rfl (Nat.le_of_ble_eq_true rfl) dX12_stamp_41 ⟨Nat.le_of_ble_eq_true rfl, Nat.le_of_ble_eq_true rfl⟩ rfl rfl (fun H locs hW => ?_)
    refine lv_imul hx hb dX12_stamp_44 ?_
    refine lv_iload_n hx hb dX12_stamp_45 rfl (lv_at hl 1 rfl) ?_
    refine lv_iadd hx hb dX12_stamp_46 ?_
    refine lv_lload_n hx hb dX12_stamp_47 rfl (lv_at hl 2 rfl) ?_
    refine lv_ldc2 (own := RX12) (v := (4294967295 : Int64)) hx hb hown (hts _ (List.mem_cons_of_mem _ q_7_193)) dX12_stamp_48 ?_
    refine lv_land hx hb dX12_stamp_51 ?_
    rcases Decidable.em ((((3 : Int32) * o10.1) + x2) < 0 ∨ 6300 ≤ (((3 : Int32) * o10.1) + x2).toNatClampNeg) with c13 | c13
    · replace hf := (if_pos c13).symm.trans hf
      exact absurd hf (by simp)
    · replace hf := (if_neg c13).symm.trans hf
      refine gw_last (σ' := (stL o10.2 0 (((3 : Int32) * o10.1) + x2).toNatClampNeg (x3 &&& (4294967295 : Int64)))) F hW 17 16 (aM_17 K o10.2) rfl c13 dX12_stamp_52 (sAM_16 _ _ _) (fun H locs hW => ?_)
      refine lv_aload_n hx hb dX12_stamp_53 rfl (lv_at hl 0 rfl) ?_
      refine lv_iconst (v := (0 : Int32)) hx hb dX12_stamp_54 (by decide) ?_
      refine gw_put (σ' := (stS (stL o10.2 0 (((3 : Int32) * o10.1) + x2).toNatClampNeg (x3 &&& (4294967295 : Int64))) 3 (0 : Int32))) (ty := .boolean) F inc_X12 tyX12 tyX12_ok nmX12 hW 0 10 8 (aM_0 K (stL o10.2 0 (((3 : Int32) * o10.1) + x2).toNatClampNeg (x3 &&& (4294967295 : Int64)))) rfl (by decide) (hG _ q_6_120) (fun _ h9 => h9) rfl (by decide +kernel) rfl rfl (Nat.le_of_ble_eq_true rfl) dX12_stamp_55 (sSM_3 _ _ _) (fun H locs hW => ?_)
      exact gw_retv F hW hf dX12_stamp_58
  · replace hf := (if_neg c9).symm.trans hf
    exact gw_retv F hW hf dX12_stamp_30
set_option maxHeartbeats 4000000 in
set_option maxRecDepth 100000 in
theorem wMX12_stamp_0_18 {p : Program} {l : Launch} {e : Env} {s : State} {m : MethodId} {args : Array Value} {below : List Frame} {meth : Method} {c : Code} {A : Nat → Prop} {K : KX} (F : fx_ p s m args meth c cX12_stamp 5 none RX12 wsX12_stamp) (x2 : Int32) (x3 : Int64) (σ : XS) (o : XS) (hf : fMX12_stamp_0_18 (kn K) x2 x3 σ = some o) (H : Heap) (locs : List Loc) (ls : Array Slot) (hl : lv_has ls 5 [(0, .ref (ka K 0)), (2, .int x2), (3, .long x3)]) (hW : gw_ (kD K) vwCl (tyM K) (wM K) A s σ H locs) : W p l e rMX12_stamp_0 s m args below meth c H locs 0 0 (MQ below (gw_Qv (kD K) vwCl (tyM K) (wM K) A o) args s rMX12_stamp_0.cells rMX12_stamp_0.slots A) (F0 m 18 ls [.ref (ka K 0)]) := by
  have hx := F.1
  have hb := F.2.1
  have hml := F.2.2.2.1
  have hown := F.2.2.2.2.1
  have hts := F.2.2.2.2.2.1
  have hG : ∀ x ∈ gT, x.before args s = true := fun x h => hts x (List.mem_cons_of_mem _ h)
  unfold fMX12_stamp_0_18 at hf
  refine lv_iconst (v := (1 : Int32)) hx hb dX12_stamp_18 (by decide) ?_
  refine lv_goto (tgt := 23) hx hb dX12_stamp_19 (by decide) ?_
  exact wMX12_stamp_0_23 F x2 x3 (1 : Int32) _ _ hf _ _ _ (lv_sub hl [0, 1, 2] rfl) hW
set_option maxHeartbeats 4000000 in
set_option maxRecDepth 100000 in
theorem wMX12_stamp_0_0 {p : Program} {l : Launch} {e : Env} {s : State} {m : MethodId} {args : Array Value} {below : List Frame} {meth : Method} {c : Code} {A : Nat → Prop} {K : KX} (F : fx_ p s m args meth c cX12_stamp 5 none RX12 wsX12_stamp) (x1 : Int32) (x2 : Int32) (x3 : Int64) (σ : XS) (o : XS) (hf : fMX12_stamp_0_0 (kn K) x1 x2 x3 σ = some o) (H : Heap) (locs : List Loc) (ls : Array Slot) (hl : lv_has ls 5 [(0, .ref (ka K 0)), (1, .int x1), (2, .int x2), (3, .long x3)]) (hW : gw_ (kD K) vwCl (tyM K) (wM K) A s σ H locs) : W p l e rMX12_stamp_0 s m args below meth c H locs 0 0 (MQ below (gw_Qv (kD K) vwCl (tyM K) (wM K) A o) args s rMX12_stamp_0.cells rMX12_stamp_0.slots A) (F0 m 0 ls []) := by
  have hx := F.1
  have hb := F.2.1
  have hml := F.2.2.2.1
  have hown := F.2.2.2.2.1
  have hts := F.2.2.2.2.2.1
  have hG : ∀ x ∈ gT, x.before args s = true := fun x h => hts x (List.mem_cons_of_mem _ h)
  unfold fMX12_stamp_0_0 at hf
  refine lv_aload_n hx hb dX12_stamp_0 rfl (lv_at hl 0 rfl) ?_
  refine lv_iload_n hx hb dX12_stamp_1 rfl (lv_at hl 1 rfl) ?_
  obtain ⟨o1, h2, hf⟩ := gw_bind hf
  refine gw_Vz (As := [.int x1]) (mc' := 0) (ms' := 0) F hW (mMX12_no_0 h2) (cwV 1 hts (gT_V q_7_116 q_7_118 qp_58 q_1_12 q_7_119) rfl rfl rfl hdX12_no ⟨Nat.le_of_ble_eq_true rfl, Nat.le_of_ble_eq_true rfl⟩) 0 10 (aM_0 K σ) rfl rfl hl.1 rfl (Nat.le_of_ble_eq_true rfl) dX12_stamp_2 ⟨Nat.le_of_ble_eq_true rfl, Nat.le_of_ble_eq_true rfl⟩ rfl rfl (fun H locs z3 hW => ?_)
  refine lv_if_ne (tgt := 30) hx hb dX12_stamp_5 (by decide) (fun c4 => ?_) (fun c4 => ?_)
  · replace hf := (if_neg c4).symm.trans hf
    exact gw_retv F hW hf dX12_stamp_30
  · replace hf := (if_pos c4).symm.trans hf
    refine lv_aload_n hx hb dX12_stamp_8 rfl (lv_at hl 0 rfl) ?_
    refine lv_iload_n hx hb dX12_stamp_9 rfl (lv_at hl 2 rfl) ?_
    refine lv_if_lt (tgt := 18) hx hb dX12_stamp_10 (by decide) (fun c5 => ?_) (fun c5 => ?_)
    · replace hf := (if_pos c5).symm.trans hf
      exact wMX12_stamp_0_18 F x2 x3 _ _ hf _ _ _ (lv_sub hl [0, 2, 3] rfl) hW
    · replace hf := (if_neg c5).symm.trans hf
      refine lv_iload_n hx hb dX12_stamp_13 rfl (lv_at hl 2 rfl) ?_
      refine lv_iconst (v := (2 : Int32)) hx hb dX12_stamp_14 (by decide) ?_
      refine lv_icmp_le (tgt := 22) hx hb dX12_stamp_15 (by decide) (fun c14 => ?_) (fun c14 => ?_)
      · replace hf := (if_pos c14).symm.trans hf
        refine lv_iconst (v := (0 : Int32)) hx hb dX12_stamp_22 (by decide) ?_
        exact wMX12_stamp_0_23 F x2 x3 (0 : Int32) _ _ hf _ _ _ (lv_sub hl [0, 2, 3] rfl) hW
      · replace hf := (if_neg c14).symm.trans hf
        exact wMX12_stamp_0_18 F x2 x3 _ _ hf _ _ _ (lv_sub hl [0, 2, 3] rfl) hW
set_option maxHeartbeats 4000000 in
set_option maxRecDepth 100000 in
theorem mMX12_stamp_0 {l : Launch} {K : KX} {σ : XS} {x1 : Int32} {x2 : Int32} {x3 : Int64} {o : XS} (hf : fMX12_stamp_0 (kn K) x1 x2 x3 σ = some o) : gw_Mv l (kD K) vwCl (tyM K) (wM K) yX12_stamp wsX12_stamp rMX12_stamp_0 [.ref (ka K 0), .int x1, .int x2, .long x3] σ o := by
  intro sz
  refine gw_body (cc := cX12_stamp) (maxL := 5) (yret := none) (by decide +kernel) rfl ?_ (Nat.le_of_ble_eq_true rfl)
  intro p e s m below meth c F hsz hW ls hl
  exact wMX12_stamp_0_0 F x1 x2 x3 σ o hf s.heap [] ls hl hW
