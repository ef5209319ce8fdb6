/-- what the rest of the loop needs at its end -/
def lw_next (p : Program) (l : Launch) (e : Env) (s : State) (m : MethodId) (below : List Frame) (meth : Method) (c : Code) (b : Nat) (J : LJ) (Inv : XS → XS → Prop) (x4 : Int32) (cells slots : Nat) : Prop := ∀ (σ τ : XS) (v : Nat → Int64) (H : Heap) (locs : List Loc) (ls : Array Slot), Inv σ τ → lv_has ls 8 [(0, .ref b), (1, .ref (ka (jX J) 0)), (2, .ref (ka (jM J) 0)), (3, .ref (jq J)), (4, .int x4)] → gw_ (kD (KC J τ v)) vwCl (tyX (KC J τ v)) (wX (KC J τ v)) (fun q : Nat => s.heap.size ≤ q) s σ H locs → W p l e room_1 s m #[Value.ref b] below meth c H locs (cells + 5) (slots + 25) (lw_Z below #[Value.ref b] s) (F0 m 1133 ls [])
set_option maxHeartbeats 4000000 in
set_option maxRecDepth 100000 in
theorem lc_feed {p : Program} {l : Launch} {e : Env} {s : State} {m : MethodId} {below : List Frame} {meth : Method} {c : Code} {b L : Nat} {xs : Nat → Int32} {J : LJ} {Inv : XS → XS → Prop} (F : fx_ p s m #[Value.ref b] meth c code 8 ret "InodeDeskLaw" (Cond.initialized "InodeDeskLaw" :: gT)) (hl9 : l.stackTraces = false) (hZ : xz_ (fun q : Nat => s.heap.size ≤ q) s) (hN : xn_ s) (hX : va_X b L xs s s.heap) (hbl : b < s.heap.size) (St : St_all (jn J) Inv) {x4 : Int32} {cells slots : Nat} (hcc : cells + 5 ≤ 601024) (hss : slots + 25 ≤ 7293000) (hin : ∀ k : Int32, 0 ≤ k → k < 6 → vp_in (x4 + k) L) (nxt : lw_next p l e s m below meth c b J Inv x4 cells slots) (σ τ : XS) (v : Nat → Int64) (hI : Inv σ τ) (H : Heap) (locs : List Loc) (ls : Array Slot) (hl : lv_has ls 8 [(0, .ref b), (1, .ref (ka (jX J) 0)), (2, .ref (ka (jM J) 0)), (3, .ref (jq J)), (4, .int x4)]) (hW : gw_ (kD (KC J τ v)) vwCl (tyX (KC J τ v)) (wX (KC J τ v)) (fun q : Nat => s.heap.size ≤ q) s σ H locs) : W p l e room_1 s m #[Value.ref b] below meth c H locs cells slots (lw_Z below #[Value.ref b] s) (F0 m 136 ls []) := by
  have hx := F.1
  have hb := F.2.1
  have hml := F.2.2.2.1
  have hown := F.2.2.2.2.1
  have hts := F.2.2.2.2.2.1
  have hG : ∀ x ∈ gT, x.before _ s = true := fun x h => hts x (List.mem_cons_of_mem _ h)
  have hbA : ¬ (fun q : Nat => s.heap.size ≤ q) b := Nat.not_le.mpr hbl
  obtain ⟨o1, o2, h1, h2, hI⟩ := (St.1) σ τ (xs (x4 + (1 : Int32)).toNatClampNeg) (xs (x4 + (2 : Int32)).toNatClampNeg) (xs (x4 + (3 : Int32)).toNatClampNeg) (xs (x4 + (4 : Int32)).toNatClampNeg) (xs (x4 + (5 : Int32)).toNatClampNeg) hI
  refine lv_aload_n hx hb dL_136 rfl (lv_at hl 1 rfl) ?_
  refine lv_aload_n hx hb dL_137 rfl (lv_at hl 0 rfl) ?_
  refine lv_iload hx hb dL_138 (lv_at hl 4 rfl) ?_
  refine lv_iconst (v := (1 : Int32)) hx hb dL_140 (by decide) ?_
  refine lv_iadd hx hb dL_141 ?_
  refine va_sld hx hb hX hbl hbA hW.2.2.2.1 (hin (1 : Int32) (by decide) (by decide)) dL_142 ?_
  refine lv_aload_n hx hb dL_143 rfl (lv_at hl 0 rfl) ?_
  refine lv_iload hx hb dL_144 (lv_at hl 4 rfl) ?_
  refine lv_iconst (v := (2 : Int32)) hx hb dL_146 (by decide) ?_
  refine lv_iadd hx hb dL_147 ?_
  refine va_sld hx hb hX hbl hbA hW.2.2.2.1 (hin (2 : Int32) (by decide) (by decide)) dL_148 ?_
  refine lv_aload_n hx hb dL_149 rfl (lv_at hl 0 rfl) ?_
  refine lv_iload hx hb dL_150 (lv_at hl 4 rfl) ?_
  refine lv_iconst (v := (3 : Int32)) hx hb dL_152 (by decide) ?_
  refine lv_iadd hx hb dL_153 ?_
  refine va_sld hx hb hX hbl hbA hW.2.2.2.1 (hin (3 : Int32) (by decide) (by decide)) dL_154 ?_
  refine lv_aload_n hx hb dL_155 rfl (lv_at hl 0 rfl) ?_
  refine lv_iload hx hb dL_156 (lv_at hl 4 rfl) ?_
  refine lv_iconst (v := (4 : Int32)) hx hb dL_158 (by decide) ?_
  refine lv_iadd hx hb dL_159 ?_
  refine va_sld hx hb hX hbl hbA hW.2.2.2.1 (hin (4 : Int32) (by decide) (by decide)) dL_160 ?_
  refine lv_aload_n hx hb dL_161 rfl (lv_at hl 0 rfl) ?_
  refine lv_iload hx hb dL_162 (lv_at hl 4 rfl) ?_
  refine lv_iconst (v := (5 : Int32)) hx hb dL_164 (by decide) ?_
  refine lv_iadd hx hb dL_165 ?_
  refine va_sld hx hb hX hbl hbA hW.2.2.2.1 (hin (5 : Int32) (by decide) (by decide)) dL_166 ?_
  refine gw_Vv (As := [.int (xs (x4 + (1 : Int32)).toNatClampNeg), .int (xs (x4 + (2 : Int32)).toNatClampNeg), .int (xs (x4 + (3 : Int32)).toNatClampNeg), .int (xs (x4 + (4 : Int32)).toNatClampNeg), .int (xs (x4 + (5 : Int32)).toNatClampNeg)]) (mc' := cells) (ms' := slots) F hW (mXX0_feed_0 h1) (cwV 5 hts (gT_V q_2_17 q_2_18 q_2_19 q_1_1 q_2_20) rfl rfl rfl hdX0_feed ⟨(Nat.le_of_ble_eq_true rfl), (Nat.le_of_ble_eq_true rfl)⟩) 0 0 (aX_0 _ _) rfl rfl hl.1 rfl (Nat.le_of_ble_eq_true rfl) dL_167 ⟨by show cells + 0 ≤ 601024; omega, by show slots + 0 ≤ 7293000; omega⟩ rfl rfl (fun H locs hW => ?_)
  refine lv_aload_n hx hb dL_170 rfl (lv_at hl 2 rfl) ?_
  refine lv_aload_n hx hb dL_171 rfl (lv_at hl 0 rfl) ?_
  refine lv_iload hx hb dL_172 (lv_at hl 4 rfl) ?_
  refine lv_iconst (v := (1 : Int32)) hx hb dL_174 (by decide) ?_
  refine lv_iadd hx hb dL_175 ?_
  refine va_sld hx hb hX hbl hbA hW.2.2.2.1 (hin (1 : Int32) (by decide) (by decide)) dL_176 ?_
  refine lv_aload_n hx hb dL_177 rfl (lv_at hl 0 rfl) ?_
  refine lv_iload hx hb dL_178 (lv_at hl 4 rfl) ?_
  refine lv_iconst (v := (2 : Int32)) hx hb dL_180 (by decide) ?_
  refine lv_iadd hx hb dL_181 ?_
  refine va_sld hx hb hX hbl hbA hW.2.2.2.1 (hin (2 : Int32) (by decide) (by decide)) dL_182 ?_
  refine lv_aload_n hx hb dL_183 rfl (lv_at hl 0 rfl) ?_
  refine lv_iload hx hb dL_184 (lv_at hl 4 rfl) ?_
  refine lv_iconst (v := (3 : Int32)) hx hb dL_186 (by decide) ?_
  refine lv_iadd hx hb dL_187 ?_
  refine va_sld hx hb hX hbl hbA hW.2.2.2.1 (hin (3 : Int32) (by decide) (by decide)) dL_188 ?_
  refine lv_aload_n hx hb dL_189 rfl (lv_at hl 0 rfl) ?_
  refine lv_iload hx hb dL_190 (lv_at hl 4 rfl) ?_
  refine lv_iconst (v := (4 : Int32)) hx hb dL_192 (by decide) ?_
  refine lv_iadd hx hb dL_193 ?_
  refine va_sld hx hb hX hbl hbA hW.2.2.2.1 (hin (4 : Int32) (by decide) (by decide)) dL_194 ?_
  refine lv_aload_n hx hb dL_195 rfl (lv_at hl 0 rfl) ?_
  refine lv_iload hx hb dL_196 (lv_at hl 4 rfl) ?_
  refine lv_iconst (v := (5 : Int32)) hx hb dL_198 (by decide) ?_
  refine lv_iadd hx hb dL_199 ?_
  refine va_sld hx hb hX hbl hbA hW.2.2.2.1 (hin (5 : Int32) (by decide) (by decide)) dL_200 ?_
  have hW := toM hW
  refine gw_Vv (As := [.int (xs (x4 + (1 : Int32)).toNatClampNeg), .int (xs (x4 + (2 : Int32)).toNatClampNeg), .int (xs (x4 + (3 : Int32)).toNatClampNeg), .int (xs (x4 + (4 : Int32)).toNatClampNeg), .int (xs (x4 + (5 : Int32)).toNatClampNeg)]) (mc' := cells) (ms' := slots) F hW (mMX12_feed_0 h2) (cwV 5 hts (gT_V q_6_218 q_6_219 q_6_220 q_1_12 q_6_221) rfl rfl rfl hdX12_feed ⟨(Nat.le_of_ble_eq_true rfl), (Nat.le_of_ble_eq_true rfl)⟩) 0 10 (aM_0 _ _) rfl rfl hl.1 rfl (Nat.le_of_ble_eq_true rfl) dL_201 ⟨by show cells + 0 ≤ 601024; omega, by show slots + 0 ≤ 7293000; omega⟩ rfl rfl (fun H locs hW => ?_)
  have hW := toX hW
  refine lv_goto (tgt := 1133) hx hb dL_204 (by decide) ?_
  exact W.widen (k := cells + 5) (n := slots + 25) (by omega) (by omega) (nxt _ _ v H locs ls hI (lv_sub hl [0, 1, 2, 3, 4] rfl) hW)
set_option maxHeartbeats 4000000 in
set_option maxRecDepth 100000 in
theorem lc_end {p : Program} {l : Launch} {e : Env} {s : State} {m : MethodId} {below : List Frame} {meth : Method} {c : Code} {b L : Nat} {xs : Nat → Int32} {J : LJ} {Inv : XS → XS → Prop} (F : fx_ p s m #[Value.ref b] meth c code 8 ret "InodeDeskLaw" (Cond.initialized "InodeDeskLaw" :: gT)) (hl9 : l.stackTraces = false) (hZ : xz_ (fun q : Nat => s.heap.size ≤ q) s) (hN : xn_ s) (hX : va_X b L xs s s.heap) (hbl : b < s.heap.size) (St : St_all (jn J) Inv) {x4 : Int32} {cells slots : Nat} (hcc : cells + 5 ≤ 601024) (hss : slots + 25 ≤ 7293000) (hin : ∀ k : Int32, 0 ≤ k → k < 6 → vp_in (x4 + k) L) (nxt : lw_next p l e s m below meth c b J Inv x4 cells slots) (σ τ : XS) (v : Nat → Int64) (hI : Inv σ τ) (H : Heap) (locs : List Loc) (ls : Array Slot) (hl : lv_has ls 8 [(0, .ref b), (1, .ref (ka (jX J) 0)), (2, .ref (ka (jM J) 0)), (3, .ref (jq J)), (4, .int x4)]) (hW : gw_ (kD (KC J τ v)) vwCl (tyX (KC J τ v)) (wX (KC J τ v)) (fun q : Nat => s.heap.size ≤ q) s σ H locs) : W p l e room_1 s m #[Value.ref b] below meth c H locs cells slots (lw_Z below #[Value.ref b] s) (F0 m 207 ls []) := by
  have hx := F.1
  have hb := F.2.1
  have hml := F.2.2.2.1
  have hown := F.2.2.2.2.1
  have hts := F.2.2.2.2.2.1
  have hG : ∀ x ∈ gT, x.before _ s = true := fun x h => hts x (List.mem_cons_of_mem _ h)
  have hbA : ¬ (fun q : Nat => s.heap.size ≤ q) b := Nat.not_le.mpr hbl
  obtain ⟨o1, o2, h1, h2, he, hI⟩ := (St.2.1) σ τ (xs (x4 + (1 : Int32)).toNatClampNeg) hI
  refine lv_aload_n hx hb dL_207 rfl (lv_at hl 1 rfl) ?_
  refine lv_aload_n hx hb dL_208 rfl (lv_at hl 0 rfl) ?_
  refine lv_iload hx hb dL_209 (lv_at hl 4 rfl) ?_
  refine lv_iconst (v := (1 : Int32)) hx hb dL_211 (by decide) ?_
  refine lv_iadd hx hb dL_212 ?_
  refine va_sld hx hb hX hbl hbA hW.2.2.2.1 (hin (1 : Int32) (by decide) (by decide)) dL_213 ?_
  refine gw_Vi (As := [.int (xs (x4 + (1 : Int32)).toNatClampNeg)]) (mc' := cells) (ms' := slots) F hW (mXX0_end_0 h1) (cwV 1 hts (gT_V q_2_25 q_2_26 q_2_27 q_1_1 q_2_28) rfl rfl rfl hdX0_end ⟨(Nat.le_of_ble_eq_true rfl), (Nat.le_of_ble_eq_true rfl)⟩) 0 0 (aX_0 _ _) rfl rfl hl.1 rfl (Nat.le_of_ble_eq_true rfl) dL_214 ⟨by show cells + 0 ≤ 601024; omega, by show slots + 0 ≤ 7293000; omega⟩ rfl rfl (fun H locs hW => ?_)
  refine lv_aload_n hx hb dL_217 rfl (lv_at hl 2 rfl) ?_
  refine lv_aload_n hx hb dL_218 rfl (lv_at hl 0 rfl) ?_
  refine lv_iload hx hb dL_219 (lv_at hl 4 rfl) ?_
  refine lv_iconst (v := (1 : Int32)) hx hb dL_221 (by decide) ?_
  refine lv_iadd hx hb dL_222 ?_
  refine va_sld hx hb hX hbl hbA hW.2.2.2.1 (hin (1 : Int32) (by decide) (by decide)) dL_223 ?_
  have hW := toM hW
  refine gw_Vi (As := [.int (xs (x4 + (1 : Int32)).toNatClampNeg)]) (mc' := cells) (ms' := slots) F hW (mMX12_end_0 h2) (cwV 1 hts (gT_V q_6_222 q_6_223 q_6_224 q_1_12 q_6_225) rfl rfl rfl hdX12_end ⟨(Nat.le_of_ble_eq_true rfl), (Nat.le_of_ble_eq_true rfl)⟩) 0 10 (aM_0 _ _) rfl rfl hl.1 rfl (Nat.le_of_ble_eq_true rfl) dL_224 ⟨by show cells + 0 ≤ 601024; omega, by show slots + 0 ≤ 7293000; omega⟩ rfl rfl (fun H locs hW => ?_)
  have hW := toX hW
  refine lv_icmp_eq (tgt := 1133) hx hb dL_227 (by decide) (fun c227 => ?_) (fun c227 => absurd (he) c227)
  exact W.widen (k := cells + 5) (n := slots + 25) (by omega) (by omega) (nxt _ _ v H locs ls hI (lv_sub hl [0, 1, 2, 3, 4] rfl) hW)
set_option maxHeartbeats 4000000 in
set_option maxRecDepth 100000 in
theorem lc_format {p : Program} {l : Launch} {e : Env} {s : State} {m : MethodId} {below : List Frame} {meth : Method} {c : Code} {b L : Nat} {xs : Nat → Int32} {J : LJ} {Inv : XS → XS → Prop} (F : fx_ p s m #[Value.ref b] meth c code 8 ret "InodeDeskLaw" (Cond.initialized "InodeDeskLaw" :: gT)) (hl9 : l.stackTraces = false) (hZ : xz_ (fun q : Nat => s.heap.size ≤ q) s) (hN : xn_ s) (hX : va_X b L xs s s.heap) (hbl : b < s.heap.size) (St : St_all (jn J) Inv) {x4 : Int32} {cells slots : Nat} (hcc : cells + 5 ≤ 601024) (hss : slots + 25 ≤ 7293000) (hin : ∀ k : Int32, 0 ≤ k → k < 6 → vp_in (x4 + k) L) (nxt : lw_next p l e s m below meth c b J Inv x4 cells slots) (σ τ : XS) (v : Nat → Int64) (hI : Inv σ τ) (H : Heap) (locs : List Loc) (ls : Array Slot) (hl : lv_has ls 8 [(0, .ref b), (1, .ref (ka (jX J) 0)), (2, .ref (ka (jM J) 0)), (3, .ref (jq J)), (4, .int x4)]) (hW : gw_ (kD (KC J τ v)) vwCl (tyX (KC J τ v)) (wX (KC J τ v)) (fun q : Nat => s.heap.size ≤ q) s σ H locs) : W p l e room_1 s m #[Value.ref b] below meth c H locs cells slots (lw_Z below #[Value.ref b] s) (F0 m 232 ls []) := by
  have hx := F.1
  have hb := F.2.1
  have hml := F.2.2.2.1
  have hown := F.2.2.2.2.1
  have hts := F.2.2.2.2.2.1
  have hG : ∀ x ∈ gT, x.before _ s = true := fun x h => hts x (List.mem_cons_of_mem _ h)
  have hbA : ¬ (fun q : Nat => s.heap.size ≤ q) b := Nat.not_le.mpr hbl
  obtain ⟨o1, o2, h1, h2, hI, hc⟩ := (St.2.2.1) σ τ (xs (x4 + (1 : Int32)).toNatClampNeg) (xs (x4 + (2 : Int32)).toNatClampNeg) (xs (x4 + (3 : Int32)).toNatClampNeg) hI
  rcases hc with ⟨e1, e2, e3⟩ | ⟨e1, e2⟩
  · refine lv_aload_n hx hb dL_232 rfl (lv_at hl 1 rfl) ?_
    refine lv_aload_n hx hb dL_233 rfl (lv_at hl 0 rfl) ?_
    refine lv_iload hx hb dL_234 (lv_at hl 4 rfl) ?_
    refine lv_iconst (v := (1 : Int32)) hx hb dL_236 (by decide) ?_
    refine lv_iadd hx hb dL_237 ?_
    refine va_sld hx hb hX hbl hbA hW.2.2.2.1 (hin (1 : Int32) (by decide) (by decide)) dL_238 ?_
    refine lv_aload_n hx hb dL_239 rfl (lv_at hl 0 rfl) ?_
    refine lv_iload hx hb dL_240 (lv_at hl 4 rfl) ?_
    refine lv_iconst (v := (2 : Int32)) hx hb dL_242 (by decide) ?_
    refine lv_iadd hx hb dL_243 ?_
    refine va_sld hx hb hX hbl hbA hW.2.2.2.1 (hin (2 : Int32) (by decide) (by decide)) dL_244 ?_
    refine lv_aload_n hx hb dL_245 rfl (lv_at hl 0 rfl) ?_
    refine lv_iload hx hb dL_246 (lv_at hl 4 rfl) ?_
    refine lv_iconst (v := (3 : Int32)) hx hb dL_248 (by decide) ?_
    refine lv_iadd hx hb dL_249 ?_
    refine va_sld hx hb hX hbl hbA hW.2.2.2.1 (hin (3 : Int32) (by decide) (by decide)) dL_250 ?_
    refine lv_aload_n hx hb dL_251 rfl (lv_at hl 3 rfl) ?_
    have hWo := gX_H (v0 := v) hW
    refine gh_S (As := [.ref (ka (jX J) 0), .int (xs (x4 + (1 : Int32)).toNatClampNeg), .int (xs (x4 + (2 : Int32)).toNatClampNeg), .int (xs (x4 + (3 : Int32)).toNatClampNeg), .ref (jq J)]) (mc' := cells + 1) (ms' := slots + 6) F hZ hN hWo (hL_format hl9 h1 (Or.inl ⟨e1, rfl⟩)) (gT_I q_4_196) rfl (hG _ q_4_194) (hG _ q_4_195) (hG _ q_1_0) hdX10_format.2 ⟨(Nat.le_of_ble_eq_true rfl), (Nat.le_of_ble_eq_true rfl)⟩ rfl hl.1 rfl (Nat.le_of_ble_eq_true rfl) dL_252 ⟨by show cells + 1 ≤ 601024; omega, by show slots + 6 ≤ 7293000; omega⟩ rfl rfl (fun H locs hW => ?_)
    have hW := gH_X (J := J) (τ := τ) (v := (if o1.1 = 0 then vp_updL v 0 o1.2.1.toInt64 else v)) hW
    refine lv_istore (lv' := [(5, .int (0 : Int32)), (0, .ref b), (1, .ref (ka (jX J) 0)), (2, .ref (ka (jM J) 0)), (3, .ref (jq J)), (4, .int x4)]) hx hb dL_255 hl (by decide) rfl (fun ls hl => ?_)
    refine lv_aload_n hx hb dL_257 rfl (lv_at hl 3 rfl) ?_
    refine lv_aload_n hx hb dL_258 rfl (lv_at hl 1 rfl) ?_
    refine lv_iload hx hb dL_259 (lv_at hl 5 rfl) ?_
    refine lv_iconst (v := (1 : Int32)) hx hb dL_261 (by decide) ?_
    refine lv_iadd hx hb dL_262 ?_
    refine va_sld hx hb hX hbl hbA hW.2.2.2.1 (hin (1 : Int32) (by decide) (by decide)) dL_263 ?_
    refine lv_aload_n hx hb dL_264 rfl (lv_at hl 1 rfl) ?_
    refine lv_iload hx hb dL_265 (lv_at hl 5 rfl) ?_
    refine lv_iconst (v := (2 : Int32)) hx hb dL_267 (by decide) ?_
    refine lv_iadd hx hb dL_268 ?_
    refine va_sld hx hb hX hbl hbA hW.2.2.2.1 (hin (2 : Int32) (by decide) (by decide)) dL_269 ?_
    refine lv_aload_n hx hb dL_270 rfl (lv_at hl 1 rfl) ?_
    refine lv_iload hx hb dL_271 (lv_at hl 5 rfl) ?_
    refine lv_iconst (v := (3 : Int32)) hx hb dL_273 (by decide) ?_
    refine lv_iadd hx hb dL_274 ?_
    refine va_sld hx hb hX hbl hbA hW.2.2.2.1 (hin (3 : Int32) (by decide) (by decide)) dL_275 ?_
    have hW := toM hW
    refine gw_Vi (As := [.int (xs (x4 + (1 : Int32)).toNatClampNeg), .int (xs (x4 + (2 : Int32)).toNatClampNeg), .int (xs (x4 + (3 : Int32)).toNatClampNeg)]) (mc' := cells + 1) (ms' := slots + 6) F hW (mMX12_format_0 h2) (cwV 3 hts (gT_V q_6_226 q_6_227 q_6_228 q_1_12 q_6_229) rfl rfl rfl hdX12_format ⟨(Nat.le_of_ble_eq_true rfl), (Nat.le_of_ble_eq_true rfl)⟩) 0 10 (aM_0 _ _) rfl rfl hl.1 rfl (Nat.le_of_ble_eq_true rfl) dL_276 ⟨by show cells + 1 + 0 ≤ 601024; omega, by show slots + 6 + 0 ≤ 7293000; omega⟩ rfl rfl (fun H locs hW => ?_)
    have hW := toX hW
    refine lv_istore (lv' := [(6, .int o2.1), (5, .int (0 : Int32)), (0, .ref b), (1, .ref (ka (jX J) 0)), (2, .ref (ka (jM J) 0)), (3, .ref (jq J)), (4, .int x4)]) hx hb dL_279 hl (by decide) rfl (fun ls hl => ?_)
    refine lv_aload_n hx hb dL_281 rfl (lv_at hl 4 rfl) ?_
    have hW := toM hW
    refine gw_Vi (As := []) (mc' := cells + 1) (ms' := slots + 6) F hW (mMX12_thrown_0 (rfl : fMX12_thrown_0 (jn J) o2.2 = some (o2.2.1 0, o2.2))) (cwV 0 hts (gT_V q_6_214 q_6_215 q_6_216 q_1_12 q_6_217) rfl rfl rfl hdX12_thrown ⟨(Nat.le_of_ble_eq_true rfl), (Nat.le_of_ble_eq_true rfl)⟩) 0 10 (aM_0 _ _) rfl rfl hl.1 rfl (Nat.le_of_ble_eq_true rfl) dL_282 ⟨by show cells + 1 + 0 ≤ 601024; omega, by show slots + 6 + 0 ≤ 7293000; omega⟩ rfl rfl (fun H locs hW => ?_)
    have hW := toX hW
    refine lv_iload hx hb dL_285 (lv_at hl 1 rfl) ?_
    refine lv_icmp_eq (tgt := 292) hx hb dL_287 (by decide) (fun c287 => ?_) (fun c287 => absurd (e2) c287)
    refine lv_iload hx hb dL_292 (lv_at hl 1 rfl) ?_
    refine lv_if_ne (tgt := 309) hx hb dL_294 (by decide) (fun c294 => absurd (rfl) c294) (fun c294 => ?_)
    refine lv_aload_n hx hb dL_297 rfl (lv_at hl 5 rfl) ?_
    refine lv_iconst (v := (0 : Int32)) hx hb dL_298 (by decide) ?_
    have hWo := gX_H (v0 := (if o1.1 = 0 then vp_updL v 0 o1.2.1.toInt64 else v)) hW
    refine gw_lald F hWo 19 8 (aH_o _ _ _) rfl (by decide) dL_299 ?_
    refine lv_iload hx hb dL_300 (lv_at hl 0 rfl) ?_
    refine lv_i2l (v := o2.1.toInt64) hx hb dL_302 rfl ?_
    refine W.lcmp hx hb dL_303 ?_
    refine lv_if_eq (tgt := 309) hx hb dL_304 (by decide) (fun c304 => ?_) (fun c304 => absurd (law_eq e1 (congrArg Int32.toInt64 e3)) c304)
    refine lv_goto (tgt := 1133) hx hb dL_309 (by decide) ?_
    exact W.widen (k := cells + 5) (n := slots + 25) (by omega) (by omega) (nxt _ _ ((if o1.1 = 0 then vp_updL v 0 o1.2.1.toInt64 else v)) H locs ls hI (lv_sub hl [2, 3, 4, 5, 6] rfl) hW)
  · refine lv_aload_n hx hb dL_232 rfl (lv_at hl 1 rfl) ?_
    refine lv_aload_n hx hb dL_233 rfl (lv_at hl 0 rfl) ?_
    refine lv_iload hx hb dL_234 (lv_at hl 4 rfl) ?_
    refine lv_iconst (v := (1 : Int32)) hx hb dL_236 (by decide) ?_
    refine lv_iadd hx hb dL_237 ?_
    refine va_sld hx hb hX hbl hbA hW.2.2.2.1 (hin (1 : Int32) (by decide) (by decide)) dL_238 ?_
    refine lv_aload_n hx hb dL_239 rfl (lv_at hl 0 rfl) ?_
    refine lv_iload hx hb dL_240 (lv_at hl 4 rfl) ?_
    refine lv_iconst (v := (2 : Int32)) hx hb dL_242 (by decide) ?_
    refine lv_iadd hx hb dL_243 ?_
    refine va_sld hx hb hX hbl hbA hW.2.2.2.1 (hin (2 : Int32) (by decide) (by decide)) dL_244 ?_
    refine lv_aload_n hx hb dL_245 rfl (lv_at hl 0 rfl) ?_
    refine lv_iload hx hb dL_246 (lv_at hl 4 rfl) ?_
    refine lv_iconst (v := (3 : Int32)) hx hb dL_248 (by decide) ?_
    refine lv_iadd hx hb dL_249 ?_
    refine va_sld hx hb hX hbl hbA hW.2.2.2.1 (hin (3 : Int32) (by decide) (by decide)) dL_250 ?_
    refine lv_aload_n hx hb dL_251 rfl (lv_at hl 3 rfl) ?_
    have hWo := gX_H (v0 := v) hW
    refine gh_S (As := [.ref (ka (jX J) 0), .int (xs (x4 + (1 : Int32)).toNatClampNeg), .int (xs (x4 + (2 : Int32)).toNatClampNeg), .int (xs (x4 + (3 : Int32)).toNatClampNeg), .ref (jq J)]) (mc' := cells + 1) (ms' := slots + 6) F hZ hN hWo (hL_format hl9 h1 (Or.inr (⟨e1, rfl⟩))) (gT_I q_4_196) rfl (hG _ q_4_194) (hG _ q_4_195) (hG _ q_1_0) hdX10_format.2 ⟨(Nat.le_of_ble_eq_true rfl), (Nat.le_of_ble_eq_true rfl)⟩ rfl hl.1 rfl (Nat.le_of_ble_eq_true rfl) dL_252 ⟨by show cells + 1 ≤ 601024; omega, by show slots + 6 ≤ 7293000; omega⟩ rfl rfl (fun H locs hW => ?_)
    have hW := gH_X (J := J) (τ := τ) (v := (if o1.1 = 0 then vp_updL v 0 o1.2.1.toInt64 else v)) hW
    refine lv_istore (lv' := [(5, .int (1 : Int32)), (0, .ref b), (1, .ref (ka (jX J) 0)), (2, .ref (ka (jM J) 0)), (3, .ref (jq J)), (4, .int x4)]) hx hb dL_255 hl (by decide) rfl (fun ls hl => ?_)
    refine lv_aload_n hx hb dL_257 rfl (lv_at hl 3 rfl) ?_
    refine lv_aload_n hx hb dL_258 rfl (lv_at hl 1 rfl) ?_
    refine lv_iload hx hb dL_259 (lv_at hl 5 rfl) ?_
    refine lv_iconst (v := (1 : Int32)) hx hb dL_261 (by decide) ?_
    refine lv_iadd hx hb dL_262 ?_
    refine va_sld hx hb hX hbl hbA hW.2.2.2.1 (hin (1 : Int32) (by decide) (by decide)) dL_263 ?_
    refine lv_aload_n hx hb dL_264 rfl (lv_at hl 1 rfl) ?_
    refine lv_iload hx hb dL_265 (lv_at hl 5 rfl) ?_
    refine lv_iconst (v := (2 : Int32)) hx hb dL_267 (by decide) ?_
    refine lv_iadd hx hb dL_268 ?_
    refine va_sld hx hb hX hbl hbA hW.2.2.2.1 (hin (2 : Int32) (by decide) (by decide)) dL_269 ?_
    refine lv_aload_n hx hb dL_270 rfl (lv_at hl 1 rfl) ?_
    refine lv_iload hx hb dL_271 (lv_at hl 5 rfl) ?_
    refine lv_iconst (v := (3 : Int32)) hx hb dL_273 (by decide) ?_
    refine lv_iadd hx hb dL_274 ?_
    refine va_sld hx hb hX hbl hbA hW.2.2.2.1 (hin (3 : Int32) (by decide) (by decide)) dL_275 ?_
    have hW := toM hW
    refine gw_Vi (As := [.int (xs (x4 + (1 : Int32)).toNatClampNeg), .int (xs (x4 + (2 : Int32)).toNatClampNeg), .int (xs (x4 + (3 : Int32)).toNatClampNeg)]) (mc' := cells + 1) (ms' := slots + 6) F hW (mMX12_format_0 h2) (cwV 3 hts (gT_V q_6_226 q_6_227 q_6_228 q_1_12 q_6_229) rfl rfl rfl hdX12_format ⟨(Nat.le_of_ble_eq_true rfl), (Nat.le_of_ble_eq_true rfl)⟩) 0 10 (aM_0 _ _) rfl rfl hl.1 rfl (Nat.le_of_ble_eq_true rfl) dL_276 ⟨by show cells + 1 + 0 ≤ 601024; omega, by show slots + 6 + 0 ≤ 7293000; omega⟩ rfl rfl (fun H locs hW => ?_)
    have hW := toX hW
    refine lv_istore (lv' := [(6, .int o2.1), (5, .int (1 : Int32)), (0, .ref b), (1, .ref (ka (jX J) 0)), (2, .ref (ka (jM J) 0)), (3, .ref (jq J)), (4, .int x4)]) hx hb dL_279 hl (by decide) rfl (fun ls hl => ?_)
    refine lv_aload_n hx hb dL_281 rfl (lv_at hl 4 rfl) ?_
    have hW := toM hW
    refine gw_Vi (As := []) (mc' := cells + 1) (ms' := slots + 6) F hW (mMX12_thrown_0 (rfl : fMX12_thrown_0 (jn J) o2.2 = some (o2.2.1 0, o2.2))) (cwV 0 hts (gT_V q_6_214 q_6_215 q_6_216 q_1_12 q_6_217) rfl rfl rfl hdX12_thrown ⟨(Nat.le_of_ble_eq_true rfl), (Nat.le_of_ble_eq_true rfl)⟩) 0 10 (aM_0 _ _) rfl rfl hl.1 rfl (Nat.le_of_ble_eq_true rfl) dL_282 ⟨by show cells + 1 + 0 ≤ 601024; omega, by show slots + 6 + 0 ≤ 7293000; omega⟩ rfl rfl (fun H locs hW => ?_)
    have hW := toX hW
    refine lv_iload hx hb dL_285 (lv_at hl 1 rfl) ?_
    refine lv_icmp_eq (tgt := 292) hx hb dL_287 (by decide) (fun c287 => ?_) (fun c287 => absurd (e2) c287)
    refine lv_iload hx hb dL_292 (lv_at hl 1 rfl) ?_
    refine lv_if_ne (tgt := 309) hx hb dL_294 (by decide) (fun c294 => ?_) (fun c294 => absurd c294 ((by decide)))
    refine lv_goto (tgt := 1133) hx hb dL_309 (by decide) ?_
    exact W.widen (k := cells + 5) (n := slots + 25) (by omega) (by omega) (nxt _ _ ((if o1.1 = 0 then vp_updL v 0 o1.2.1.toInt64 else v)) H locs ls hI (lv_sub hl [2, 3, 4, 5, 6] rfl) hW)
set_option maxHeartbeats 4000000 in
set_option maxRecDepth 100000 in
theorem lc_byteAt {p : Program} {l : Launch} {e : Env} {s : State} {m : MethodId} {below : List Frame} {meth : Method} {c : Code} {b L : Nat} {xs : Nat → Int32} {J : LJ} {Inv : XS → XS → Prop} (F : fx_ p s m #[Value.ref b] meth c code 8 ret "InodeDeskLaw" (Cond.initialized "InodeDeskLaw" :: gT)) (hl9 : l.stackTraces = false) (hZ : xz_ (fun q : Nat => s.heap.size ≤ q) s) (hN : xn_ s) (hX : va_X b L xs s s.heap) (hbl : b < s.heap.size) (St : St_all (jn J) Inv) {x4 : Int32} {cells slots : Nat} (hcc : cells + 5 ≤ 601024) (hss : slots + 25 ≤ 7293000) (hin : ∀ k : Int32, 0 ≤ k → k < 6 → vp_in (x4 + k) L) (nxt : lw_next p l e s m below meth c b J Inv x4 cells slots) (σ τ : XS) (v : Nat → Int64) (hI : Inv σ τ) (H : Heap) (locs : List Loc) (ls : Array Slot) (hl : lv_has ls 8 [(0, .ref b), (1, .ref (ka (jX J) 0)), (2, .ref (ka (jM J) 0)), (3, .ref (jq J)), (4, .int x4)]) (hW : gw_ (kD (KC J τ v)) vwCl (tyX (KC J τ v)) (wX (KC J τ v)) (fun q : Nat => s.heap.size ≤ q) s σ H locs) : W p l e room_1 s m #[Value.ref b] below meth c H locs cells slots (lw_Z below #[Value.ref b] s) (F0 m 312 ls []) := by
  have hx := F.1
  have hb := F.2.1
  have hml := F.2.2.2.1
  have hown := F.2.2.2.2.1
  have hts := F.2.2.2.2.2.1
  have hG : ∀ x ∈ gT, x.before _ s = true := fun x h => hts x (List.mem_cons_of_mem _ h)
  have hbA : ¬ (fun q : Nat => s.heap.size ≤ q) b := Nat.not_le.mpr hbl
  obtain ⟨o1, o2, h1, h2, he, hI⟩ := (St.2.2.2.1) σ τ (xs (x4 + (1 : Int32)).toNatClampNeg) hI
  refine lv_aload_n hx hb dL_312 rfl (lv_at hl 1 rfl) ?_
  refine lv_aload_n hx hb dL_313 rfl (lv_at hl 0 rfl) ?_
  refine lv_iload hx hb dL_314 (lv_at hl 4 rfl) ?_
  refine lv_iconst (v := (1 : Int32)) hx hb dL_316 (by decide) ?_
  refine lv_iadd hx hb dL_317 ?_
  refine va_sld hx hb hX hbl hbA hW.2.2.2.1 (hin (1 : Int32) (by decide) (by decide)) dL_318 ?_
  refine gw_Vi (As := [.int (xs (x4 + (1 : Int32)).toNatClampNeg)]) (mc' := cells) (ms' := slots) F hW (mXX0_byteAt_0 h1) (cwV 1 hts (gT_V q_2_39 q_2_40 q_2_41 q_1_1 q_2_42) rfl rfl rfl hdX0_byteAt ⟨(Nat.le_of_ble_eq_true rfl), (Nat.le_of_ble_eq_true rfl)⟩) 0 0 (aX_0 _ _) rfl rfl hl.1 rfl (Nat.le_of_ble_eq_true rfl) dL_319 ⟨by show cells + 0 ≤ 601024; omega, by show slots + 0 ≤ 7293000; omega⟩ rfl rfl (fun H locs hW => ?_)
  refine lv_aload_n hx hb dL_322 rfl (lv_at hl 2 rfl) ?_
  refine lv_aload_n hx hb dL_323 rfl (lv_at hl 0 rfl) ?_
  refine lv_iload hx hb dL_324 (lv_at hl 4 rfl) ?_
  refine lv_iconst (v := (1 : Int32)) hx hb dL_326 (by decide) ?_
  refine lv_iadd hx hb dL_327 ?_
  refine va_sld hx hb hX hbl hbA hW.2.2.2.1 (hin (1 : Int32) (by decide) (by decide)) dL_328 ?_
  have hW := toM hW
  refine gw_Vi (As := [.int (xs (x4 + (1 : Int32)).toNatClampNeg)]) (mc' := cells) (ms' := slots) F hW (mMX12_byteAt_0 h2) (cwV 1 hts (gT_V q_7_25 q_7_26 q_7_27 q_1_12 q_7_28) rfl rfl rfl hdX12_byteAt ⟨(Nat.le_of_ble_eq_true rfl), (Nat.le_of_ble_eq_true rfl)⟩) 0 10 (aM_0 _ _) rfl rfl hl.1 rfl (Nat.le_of_ble_eq_true rfl) dL_329 ⟨by show cells + 0 ≤ 601024; omega, by show slots + 0 ≤ 7293000; omega⟩ rfl rfl (fun H locs hW => ?_)
  have hW := toX hW
  refine lv_icmp_eq (tgt := 1133) hx hb dL_332 (by decide) (fun c332 => ?_) (fun c332 => absurd (he) c332)
  exact W.widen (k := cells + 5) (n := slots + 25) (by omega) (by omega) (nxt _ _ v H locs ls hI (lv_sub hl [0, 1, 2, 3, 4] rfl) hW)
set_option maxHeartbeats 4000000 in
set_option maxRecDepth 100000 in
theorem lc_fault {p : Program} {l : Launch} {e : Env} {s : State} {m : MethodId} {below : List Frame} {meth : Method} {c : Code} {b L : Nat} {xs : Nat → Int32} {J : LJ} {Inv : XS → XS → Prop} (F : fx_ p s m #[Value.ref b] meth c code 8 ret "InodeDeskLaw" (Cond.initialized "InodeDeskLaw" :: gT)) (hl9 : l.stackTraces = false) (hZ : xz_ (fun q : Nat => s.heap.size ≤ q) s) (hN : xn_ s) (hX : va_X b L xs s s.heap) (hbl : b < s.heap.size) (St : St_all (jn J) Inv) {x4 : Int32} {cells slots : Nat} (hcc : cells + 5 ≤ 601024) (hss : slots + 25 ≤ 7293000) (hin : ∀ k : Int32, 0 ≤ k → k < 6 → vp_in (x4 + k) L) (nxt : lw_next p l e s m below meth c b J Inv x4 cells slots) (σ τ : XS) (v : Nat → Int64) (hI : Inv σ τ) (H : Heap) (locs : List Loc) (ls : Array Slot) (hl : lv_has ls 8 [(0, .ref b), (1, .ref (ka (jX J) 0)), (2, .ref (ka (jM J) 0)), (3, .ref (jq J)), (4, .int x4)]) (hW : gw_ (kD (KC J τ v)) vwCl (tyX (KC J τ v)) (wX (KC J τ v)) (fun q : Nat => s.heap.size ≤ q) s σ H locs) : W p l e room_1 s m #[Value.ref b] below meth c H locs cells slots (lw_Z below #[Value.ref b] s) (F0 m 337 ls []) := by
  have hx := F.1
  have hb := F.2.1
  have hml := F.2.2.2.1
  have hown := F.2.2.2.2.1
  have hts := F.2.2.2.2.2.1
  have hG : ∀ x ∈ gT, x.before _ s = true := fun x h => hts x (List.mem_cons_of_mem _ h)
  have hbA : ¬ (fun q : Nat => s.heap.size ≤ q) b := Nat.not_le.mpr hbl
  obtain ⟨o1, o2, h1, h2, he, hI⟩ := (St.2.2.2.2.1) σ τ  hI
  refine lv_aload_n hx hb dL_337 rfl (lv_at hl 1 rfl) ?_
  refine gw_Vi (As := []) (mc' := cells) (ms' := slots) F hW (mXX0_fault_0 h1) (cwV 0 hts (gT_V q_2_60 q_2_61 q_2_62 q_1_1 q_2_63) rfl rfl rfl hdX0_fault ⟨(Nat.le_of_ble_eq_true rfl), (Nat.le_of_ble_eq_true rfl)⟩) 0 0 (aX_0 _ _) rfl rfl hl.1 rfl (Nat.le_of_ble_eq_true rfl) dL_338 ⟨by show cells + 0 ≤ 601024; omega, by show slots + 0 ≤ 7293000; omega⟩ rfl rfl (fun H locs hW => ?_)
  refine lv_aload_n hx hb dL_341 rfl (lv_at hl 2 rfl) ?_
  have hW := toM hW
  refine gw_Vi (As := []) (mc' := cells) (ms' := slots) F hW (mMX12_fault_0 h2) (cwV 0 hts (gT_V q_7_71 q_7_72 q_7_73 q_1_12 q_7_74) rfl rfl rfl hdX12_fault ⟨(Nat.le_of_ble_eq_true rfl), (Nat.le_of_ble_eq_true rfl)⟩) 0 10 (aM_0 _ _) rfl rfl hl.1 rfl (Nat.le_of_ble_eq_true rfl) dL_342 ⟨by show cells + 0 ≤ 601024; omega, by show slots + 0 ≤ 7293000; omega⟩ rfl rfl (fun H locs hW => ?_)
  have hW := toX hW
  refine lv_icmp_eq (tgt := 1133) hx hb dL_345 (by decide) (fun c345 => ?_) (fun c345 => absurd (he) c345)
  exact W.widen (k := cells + 5) (n := slots + 25) (by omega) (by omega) (nxt _ _ v H locs ls hI (lv_sub hl [0, 1, 2, 3, 4] rfl) hW)
set_option maxHeartbeats 4000000 in
set_option maxRecDepth 100000 in
theorem lc_many {p : Program} {l : Launch} {e : Env} {s : State} {m : MethodId} {below : List Frame} {meth : Method} {c : Code} {b L : Nat} {xs : Nat → Int32} {J : LJ} {Inv : XS → XS → Prop} (F : fx_ p s m #[Value.ref b] meth c code 8 ret "InodeDeskLaw" (Cond.initialized "InodeDeskLaw" :: gT)) (hl9 : l.stackTraces = false) (hZ : xz_ (fun q : Nat => s.heap.size ≤ q) s) (hN : xn_ s) (hX : va_X b L xs s s.heap) (hbl : b < s.heap.size) (St : St_all (jn J) Inv) {x4 : Int32} {cells slots : Nat} (hcc : cells + 5 ≤ 601024) (hss : slots + 25 ≤ 7293000) (hin : ∀ k : Int32, 0 ≤ k → k < 6 → vp_in (x4 + k) L) (nxt : lw_next p l e s m below meth c b J Inv x4 cells slots) (σ τ : XS) (v : Nat → Int64) (hI : Inv σ τ) (H : Heap) (locs : List Loc) (ls : Array Slot) (hl : lv_has ls 8 [(0, .ref b), (1, .ref (ka (jX J) 0)), (2, .ref (ka (jM J) 0)), (3, .ref (jq J)), (4, .int x4)]) (hW : gw_ (kD (KC J τ v)) vwCl (tyX (KC J τ v)) (wX (KC J τ v)) (fun q : Nat => s.heap.size ≤ q) s σ H locs) : W p l e room_1 s m #[Value.ref b] below meth c H locs cells slots (lw_Z below #[Value.ref b] s) (F0 m 350 ls []) := by
  have hx := F.1
  have hb := F.2.1
  have hml := F.2.2.2.1
  have hown := F.2.2.2.2.1
  have hts := F.2.2.2.2.2.1
  have hG : ∀ x ∈ gT, x.before _ s = true := fun x h => hts x (List.mem_cons_of_mem _ h)
  have hbA : ¬ (fun q : Nat => s.heap.size ≤ q) b := Nat.not_le.mpr hbl
  obtain ⟨o1, o2, h1, h2, he, hI⟩ := (St.2.2.2.2.2.1) σ τ (xs (x4 + (1 : Int32)).toNatClampNeg) hI
  refine lv_aload_n hx hb dL_350 rfl (lv_at hl 1 rfl) ?_
  refine lv_aload_n hx hb dL_351 rfl (lv_at hl 0 rfl) ?_
  refine lv_iload hx hb dL_352 (lv_at hl 4 rfl) ?_
  refine lv_iconst (v := (1 : Int32)) hx hb dL_354 (by decide) ?_
  refine lv_iadd hx hb dL_355 ?_
  refine va_sld hx hb hX hbl hbA hW.2.2.2.1 (hin (1 : Int32) (by decide) (by decide)) dL_356 ?_
  refine gw_Vi (As := [.int (xs (x4 + (1 : Int32)).toNatClampNeg)]) (mc' := cells) (ms' := slots) F hW (mXX0_many_0 h1) (cwV 1 hts (gT_V q_4_180 q_4_181 q_4_182 q_1_1 q_4_183) rfl rfl rfl hdX0_many ⟨(Nat.le_of_ble_eq_true rfl), (Nat.le_of_ble_eq_true rfl)⟩) 0 0 (aX_0 _ _) rfl rfl hl.1 rfl (Nat.le_of_ble_eq_true rfl) dL_357 ⟨by show cells + 0 ≤ 601024; omega, by show slots + 0 ≤ 7293000; omega⟩ rfl rfl (fun H locs hW => ?_)
  refine lv_aload_n hx hb dL_360 rfl (lv_at hl 2 rfl) ?_
  refine lv_aload_n hx hb dL_361 rfl (lv_at hl 0 rfl) ?_
  refine lv_iload hx hb dL_362 (lv_at hl 4 rfl) ?_
  refine lv_iconst (v := (1 : Int32)) hx hb dL_364 (by decide) ?_
  refine lv_iadd hx hb dL_365 ?_
  refine va_sld hx hb hX hbl hbA hW.2.2.2.1 (hin (1 : Int32) (by decide) (by decide)) dL_366 ?_
  have hW := toM hW
  refine gw_Vi (As := [.int (xs (x4 + (1 : Int32)).toNatClampNeg)]) (mc' := cells) (ms' := slots) F hW (mMX12_many_0 h2) (cwV 1 hts (gT_V q_7_75 q_7_76 q_7_77 q_1_12 q_7_78) rfl rfl rfl hdX12_many ⟨(Nat.le_of_ble_eq_true rfl), (Nat.le_of_ble_eq_true rfl)⟩) 0 10 (aM_0 _ _) rfl rfl hl.1 rfl (Nat.le_of_ble_eq_true rfl) dL_367 ⟨by show cells + 0 ≤ 601024; omega, by show slots + 0 ≤ 7293000; omega⟩ rfl rfl (fun H locs hW => ?_)
  have hW := toX hW
  refine lv_icmp_eq (tgt := 1133) hx hb dL_370 (by decide) (fun c370 => ?_) (fun c370 => absurd (he) c370)
  exact W.widen (k := cells + 5) (n := slots + 25) (by omega) (by omega) (nxt _ _ v H locs ls hI (lv_sub hl [0, 1, 2, 3, 4] rfl) hW)
set_option maxHeartbeats 4000000 in
set_option maxRecDepth 100000 in
theorem lc_items {p : Program} {l : Launch} {e : Env} {s : State} {m : MethodId} {below : List Frame} {meth : Method} {c : Code} {b L : Nat} {xs : Nat → Int32} {J : LJ} {Inv : XS → XS → Prop} (F : fx_ p s m #[Value.ref b] meth c code 8 ret "InodeDeskLaw" (Cond.initialized "InodeDeskLaw" :: gT)) (hl9 : l.stackTraces = false) (hZ : xz_ (fun q : Nat => s.heap.size ≤ q) s) (hN : xn_ s) (hX : va_X b L xs s s.heap) (hbl : b < s.heap.size) (St : St_all (jn J) Inv) {x4 : Int32} {cells slots : Nat} (hcc : cells + 5 ≤ 601024) (hss : slots + 25 ≤ 7293000) (hin : ∀ k : Int32, 0 ≤ k → k < 6 → vp_in (x4 + k) L) (nxt : lw_next p l e s m below meth c b J Inv x4 cells slots) (σ τ : XS) (v : Nat → Int64) (hI : Inv σ τ) (H : Heap) (locs : List Loc) (ls : Array Slot) (hl : lv_has ls 8 [(0, .ref b), (1, .ref (ka (jX J) 0)), (2, .ref (ka (jM J) 0)), (3, .ref (jq J)), (4, .int x4)]) (hW : gw_ (kD (KC J τ v)) vwCl (tyX (KC J τ v)) (wX (KC J τ v)) (fun q : Nat => s.heap.size ≤ q) s σ H locs) : W p l e room_1 s m #[Value.ref b] below meth c H locs cells slots (lw_Z below #[Value.ref b] s) (F0 m 375 ls []) := by
  have hx := F.1
  have hb := F.2.1
  have hml := F.2.2.2.1
  have hown := F.2.2.2.2.1
  have hts := F.2.2.2.2.2.1
  have hG : ∀ x ∈ gT, x.before _ s = true := fun x h => hts x (List.mem_cons_of_mem _ h)
  have hbA : ¬ (fun q : Nat => s.heap.size ≤ q) b := Nat.not_le.mpr hbl
  obtain ⟨o1, o2, h1, h2, hI, hc⟩ := (St.2.2.2.2.2.2.1) σ τ  hI
  rcases hc with ⟨e1, e2, e3⟩ | ⟨e1, e2⟩
  · refine lv_aload_n hx hb dL_375 rfl (lv_at hl 1 rfl) ?_
    refine lv_aload_n hx hb dL_376 rfl (lv_at hl 3 rfl) ?_
    have hWo := gX_H (v0 := v) hW
    refine gh_S (As := [.ref (ka (jX J) 0), .ref (jq J)]) (mc' := cells + 1) (ms' := slots + 6) F hZ hN hWo (hL_items hl9 h1 (Or.inl ⟨e1, rfl⟩)) (gT_I q_5_60) rfl (hG _ q_5_58) (hG _ q_5_59) (hG _ q_1_0) hdX10_items.2 ⟨(Nat.le_of_ble_eq_true rfl), (Nat.le_of_ble_eq_true rfl)⟩ rfl hl.1 rfl (Nat.le_of_ble_eq_true rfl) dL_377 ⟨by show cells + 1 ≤ 601024; omega, by show slots + 6 ≤ 7293000; omega⟩ rfl rfl (fun H locs hW => ?_)
    have hW := gH_X (J := J) (τ := τ) (v := (if o1.1 = 0 then vp_updL v 0 o1.2.1.toInt64 else v)) hW
    refine lv_istore (lv' := [(5, .int (0 : Int32)), (0, .ref b), (1, .ref (ka (jX J) 0)), (2, .ref (ka (jM J) 0)), (3, .ref (jq J)), (4, .int x4)]) hx hb dL_380 hl (by decide) rfl (fun ls hl => ?_)
    refine lv_aload_n hx hb dL_382 rfl (lv_at hl 3 rfl) ?_
    have hW := toM hW
    refine gw_Vi (As := []) (mc' := cells + 1) (ms' := slots + 6) F hW (mMX12_items_0 h2) (cwV 0 hts (gT_V q_7_79 q_7_80 q_7_81 q_1_12 q_7_82) rfl rfl rfl hdX12_items ⟨(Nat.le_of_ble_eq_true rfl), (Nat.le_of_ble_eq_true rfl)⟩) 0 10 (aM_0 _ _) rfl rfl hl.1 rfl (Nat.le_of_ble_eq_true rfl) dL_383 ⟨by show cells + 1 + 0 ≤ 601024; omega, by show slots + 6 + 0 ≤ 7293000; omega⟩ rfl rfl (fun H locs hW => ?_)
    have hW := toX hW
    refine lv_istore (lv' := [(6, .int o2.1), (5, .int (0 : Int32)), (0, .ref b), (1, .ref (ka (jX J) 0)), (2, .ref (ka (jM J) 0)), (3, .ref (jq J)), (4, .int x4)]) hx hb dL_386 hl (by decide) rfl (fun ls hl => ?_)
    refine lv_aload_n hx hb dL_388 rfl (lv_at hl 4 rfl) ?_
    have hW := toM hW
    refine gw_Vi (As := []) (mc' := cells + 1) (ms' := slots + 6) F hW (mMX12_thrown_0 (rfl : fMX12_thrown_0 (jn J) o2.2 = some (o2.2.1 0, o2.2))) (cwV 0 hts (gT_V q_6_214 q_6_215 q_6_216 q_1_12 q_6_217) rfl rfl rfl hdX12_thrown ⟨(Nat.le_of_ble_eq_true rfl), (Nat.le_of_ble_eq_true rfl)⟩) 0 10 (aM_0 _ _) rfl rfl hl.1 rfl (Nat.le_of_ble_eq_true rfl) dL_389 ⟨by show cells + 1 + 0 ≤ 601024; omega, by show slots + 6 + 0 ≤ 7293000; omega⟩ rfl rfl (fun H locs hW => ?_)
    have hW := toX hW
    refine lv_iload hx hb dL_392 (lv_at hl 1 rfl) ?_
    refine lv_icmp_eq (tgt := 399) hx hb dL_394 (by decide) (fun c394 => ?_) (fun c394 => absurd (e2) c394)
    refine lv_iload hx hb dL_399 (lv_at hl 1 rfl) ?_
    refine lv_if_ne (tgt := 416) hx hb dL_401 (by decide) (fun c401 => absurd (rfl) c401) (fun c401 => ?_)
    refine lv_aload_n hx hb dL_404 rfl (lv_at hl 5 rfl) ?_
    refine lv_iconst (v := (0 : Int32)) hx hb dL_405 (by decide) ?_
    have hWo := gX_H (v0 := (if o1.1 = 0 then vp_updL v 0 o1.2.1.toInt64 else v)) hW
    refine gw_lald F hWo 19 8 (aH_o _ _ _) rfl (by decide) dL_406 ?_
    refine lv_iload hx hb dL_407 (lv_at hl 0 rfl) ?_
    refine lv_i2l (v := o2.1.toInt64) hx hb dL_409 rfl ?_
    refine W.lcmp hx hb dL_410 ?_
    refine lv_if_eq (tgt := 416) hx hb dL_411 (by decide) (fun c411 => ?_) (fun c411 => absurd (law_eq e1 (congrArg Int32.toInt64 e3)) c411)
    refine lv_goto (tgt := 1133) hx hb dL_416 (by decide) ?_
    exact W.widen (k := cells + 5) (n := slots + 25) (by omega) (by omega) (nxt _ _ ((if o1.1 = 0 then vp_updL v 0 o1.2.1.toInt64 else v)) H locs ls hI (lv_sub hl [2, 3, 4, 5, 6] rfl) hW)
  · refine lv_aload_n hx hb dL_375 rfl (lv_at hl 1 rfl) ?_
    refine lv_aload_n hx hb dL_376 rfl (lv_at hl 3 rfl) ?_
    have hWo := gX_H (v0 := v) hW
    refine gh_S (As := [.ref (ka (jX J) 0), .ref (jq J)]) (mc' := cells + 1) (ms' := slots + 6) F hZ hN hWo (hL_items hl9 h1 (Or.inr (⟨e1, rfl⟩))) (gT_I q_5_60) rfl (hG _ q_5_58) (hG _ q_5_59) (hG _ q_1_0) hdX10_items.2 ⟨(Nat.le_of_ble_eq_true rfl), (Nat.le_of_ble_eq_true rfl)⟩ rfl hl.1 rfl (Nat.le_of_ble_eq_true rfl) dL_377 ⟨by show cells + 1 ≤ 601024; omega, by show slots + 6 ≤ 7293000; omega⟩ rfl rfl (fun H locs hW => ?_)
    have hW := gH_X (J := J) (τ := τ) (v := (if o1.1 = 0 then vp_updL v 0 o1.2.1.toInt64 else v)) hW
    refine lv_istore (lv' := [(5, .int (1 : Int32)), (0, .ref b), (1, .ref (ka (jX J) 0)), (2, .ref (ka (jM J) 0)), (3, .ref (jq J)), (4, .int x4)]) hx hb dL_380 hl (by decide) rfl (fun ls hl => ?_)
    refine lv_aload_n hx hb dL_382 rfl (lv_at hl 3 rfl) ?_
    have hW := toM hW
    refine gw_Vi (As := []) (mc' := cells + 1) (ms' := slots + 6) F hW (mMX12_items_0 h2) (cwV 0 hts (gT_V q_7_79 q_7_80 q_7_81 q_1_12 q_7_82) rfl rfl rfl hdX12_items ⟨(Nat.le_of_ble_eq_true rfl), (Nat.le_of_ble_eq_true rfl)⟩) 0 10 (aM_0 _ _) rfl rfl hl.1 rfl (Nat.le_of_ble_eq_true rfl) dL_383 ⟨by show cells + 1 + 0 ≤ 601024; omega, by show slots + 6 + 0 ≤ 7293000; omega⟩ rfl rfl (fun H locs hW => ?_)
    have hW := toX hW
    refine lv_istore (lv' := [(6, .int o2.1), (5, .int (1 : Int32)), (0, .ref b), (1, .ref (ka (jX J) 0)), (2, .ref (ka (jM J) 0)), (3, .ref (jq J)), (4, .int x4)]) hx hb dL_386 hl (by decide) rfl (fun ls hl => ?_)
    refine lv_aload_n hx hb dL_388 rfl (lv_at hl 4 rfl) ?_
    have hW := toM hW
    refine gw_Vi (As := []) (mc' := cells + 1) (ms' := slots + 6) F hW (mMX12_thrown_0 (rfl : fMX12_thrown_0 (jn J) o2.2 = some (o2.2.1 0, o2.2))) (cwV 0 hts (gT_V q_6_214 q_6_215 q_6_216 q_1_12 q_6_217) rfl rfl rfl hdX12_thrown ⟨(Nat.le_of_ble_eq_true rfl), (Nat.le_of_ble_eq_true rfl)⟩) 0 10 (aM_0 _ _) rfl rfl hl.1 rfl (Nat.le_of_ble_eq_true rfl) dL_389 ⟨by show cells + 1 + 0 ≤ 601024; omega, by show slots + 6 + 0 ≤ 7293000; omega⟩ rfl rfl (fun H locs hW => ?_)
    have hW := toX hW
    refine lv_iload hx hb dL_392 (lv_at hl 1 rfl) ?_
    refine lv_icmp_eq (tgt := 399) hx hb dL_394 (by decide) (fun c394 => ?_) (fun c394 => absurd (e2) c394)
    refine lv_iload hx hb dL_399 (lv_at hl 1 rfl) ?_
    refine lv_if_ne (tgt := 416) hx hb dL_401 (by decide) (fun c401 => ?_) (fun c401 => absurd c401 ((by decide)))
    refine lv_goto (tgt := 1133) hx hb dL_416 (by decide) ?_
    exact W.widen (k := cells + 5) (n := slots + 25) (by omega) (by omega) (nxt _ _ ((if o1.1 = 0 then vp_updL v 0 o1.2.1.toInt64 else v)) H locs ls hI (lv_sub hl [2, 3, 4, 5, 6] rfl) hW)
set_option maxHeartbeats 4000000 in
set_option maxRecDepth 100000 in
theorem lc_letter {p : Program} {l : Launch} {e : Env} {s : State} {m : MethodId} {below : List Frame} {meth : Method} {c : Code} {b L : Nat} {xs : Nat → Int32} {J : LJ} {Inv : XS → XS → Prop} (F : fx_ p s m #[Value.ref b] meth c code 8 ret "InodeDeskLaw" (Cond.initialized "InodeDeskLaw" :: gT)) (hl9 : l.stackTraces = false) (hZ : xz_ (fun q : Nat => s.heap.size ≤ q) s) (hN : xn_ s) (hX : va_X b L xs s s.heap) (hbl : b < s.heap.size) (St : St_all (jn J) Inv) {x4 : Int32} {cells slots : Nat} (hcc : cells + 5 ≤ 601024) (hss : slots + 25 ≤ 7293000) (hin : ∀ k : Int32, 0 ≤ k → k < 6 → vp_in (x4 + k) L) (nxt : lw_next p l e s m below meth c b J Inv x4 cells slots) (σ τ : XS) (v : Nat → Int64) (hI : Inv σ τ) (H : Heap) (locs : List Loc) (ls : Array Slot) (hl : lv_has ls 8 [(0, .ref b), (1, .ref (ka (jX J) 0)), (2, .ref (ka (jM J) 0)), (3, .ref (jq J)), (4, .int x4)]) (hW : gw_ (kD (KC J τ v)) vwCl (tyX (KC J τ v)) (wX (KC J τ v)) (fun q : Nat => s.heap.size ≤ q) s σ H locs) : W p l e room_1 s m #[Value.ref b] below meth c H locs cells slots (lw_Z below #[Value.ref b] s) (F0 m 419 ls []) := by
  have hx := F.1
  have hb := F.2.1
  have hml := F.2.2.2.1
  have hown := F.2.2.2.2.1
  have hts := F.2.2.2.2.2.1
  have hG : ∀ x ∈ gT, x.before _ s = true := fun x h => hts x (List.mem_cons_of_mem _ h)
  have hbA : ¬ (fun q : Nat => s.heap.size ≤ q) b := Nat.not_le.mpr hbl
  obtain ⟨o1, o2, h1, h2, hI, hc⟩ := (St.2.2.2.2.2.2.2.1) σ τ (xs (x4 + (1 : Int32)).toNatClampNeg) (xs (x4 + (2 : Int32)).toNatClampNeg) hI
  rcases hc with ⟨e1, e2, e3⟩ | ⟨e1, e2⟩ | ⟨e1, e2⟩
  · refine lv_aload_n hx hb dL_419 rfl (lv_at hl 1 rfl) ?_
    refine lv_aload_n hx hb dL_420 rfl (lv_at hl 0 rfl) ?_
    refine lv_iload hx hb dL_421 (lv_at hl 4 rfl) ?_
    refine lv_iconst (v := (1 : Int32)) hx hb dL_423 (by decide) ?_
    refine lv_iadd hx hb dL_424 ?_
    refine va_sld hx hb hX hbl hbA hW.2.2.2.1 (hin (1 : Int32) (by decide) (by decide)) dL_425 ?_
    refine lv_aload_n hx hb dL_426 rfl (lv_at hl 0 rfl) ?_
    refine lv_iload hx hb dL_427 (lv_at hl 4 rfl) ?_
    refine lv_iconst (v := (2 : Int32)) hx hb dL_429 (by decide) ?_
    refine lv_iadd hx hb dL_430 ?_
    refine va_sld hx hb hX hbl hbA hW.2.2.2.1 (hin (2 : Int32) (by decide) (by decide)) dL_431 ?_
    refine lv_aload_n hx hb dL_432 rfl (lv_at hl 3 rfl) ?_
    have hWo := gX_H (v0 := v) hW
    refine gh_S (As := [.ref (ka (jX J) 0), .int (xs (x4 + (1 : Int32)).toNatClampNeg), .int (xs (x4 + (2 : Int32)).toNatClampNeg), .ref (jq J)]) (mc' := cells + 2) (ms' := slots + 12) F hZ hN hWo (hL_letter hl9 h1 (Or.inl ⟨e1, rfl⟩)) (gT_I q_5_93) rfl (hG _ q_5_91) (hG _ q_5_92) (hG _ q_1_0) hdX10_letter.2 ⟨(Nat.le_of_ble_eq_true rfl), (Nat.le_of_ble_eq_true rfl)⟩ rfl hl.1 rfl (Nat.le_of_ble_eq_true rfl) dL_433 ⟨by show cells + 2 ≤ 601024; omega, by show slots + 12 ≤ 7293000; omega⟩ rfl rfl (fun H locs hW => ?_)
    have hW := gH_X (J := J) (τ := τ) (v := (if o1.1 = 0 then vp_updL v 0 o1.2.1.toInt64 else v)) hW
    refine lv_istore (lv' := [(5, .int (0 : Int32)), (0, .ref b), (1, .ref (ka (jX J) 0)), (2, .ref (ka (jM J) 0)), (3, .ref (jq J)), (4, .int x4)]) hx hb dL_436 hl (by decide) rfl (fun ls hl => ?_)
    refine lv_aload_n hx hb dL_438 rfl (lv_at hl 3 rfl) ?_
    refine lv_aload_n hx hb dL_439 rfl (lv_at hl 1 rfl) ?_
    refine lv_iload hx hb dL_440 (lv_at hl 5 rfl) ?_
    refine lv_iconst (v := (1 : Int32)) hx hb dL_442 (by decide) ?_
    refine lv_iadd hx hb dL_443 ?_
    refine va_sld hx hb hX hbl hbA hW.2.2.2.1 (hin (1 : Int32) (by decide) (by decide)) dL_444 ?_
    refine lv_aload_n hx hb dL_445 rfl (lv_at hl 1 rfl) ?_
    refine lv_iload hx hb dL_446 (lv_at hl 5 rfl) ?_
    refine lv_iconst (v := (2 : Int32)) hx hb dL_448 (by decide) ?_
    refine lv_iadd hx hb dL_449 ?_
    refine va_sld hx hb hX hbl hbA hW.2.2.2.1 (hin (2 : Int32) (by decide) (by decide)) dL_450 ?_
    have hW := toM hW
    refine gw_Vi (As := [.int (xs (x4 + (1 : Int32)).toNatClampNeg), .int (xs (x4 + (2 : Int32)).toNatClampNeg)]) (mc' := cells + 2) (ms' := slots + 12) F hW (mMX12_letter_0 h2) (cwV 2 hts (gT_V q_7_112 q_7_113 q_7_114 q_1_12 q_7_115) rfl rfl rfl hdX12_letter ⟨(Nat.le_of_ble_eq_true rfl), (Nat.le_of_ble_eq_true rfl)⟩) 0 10 (aM_0 _ _) rfl rfl hl.1 rfl (Nat.le_of_ble_eq_true rfl) dL_451 ⟨by show cells + 2 + 0 ≤ 601024; omega, by show slots + 12 + 0 ≤ 7293000; omega⟩ rfl rfl (fun H locs hW => ?_)
    have hW := toX hW
    refine lv_istore (lv' := [(6, .int o2.1), (5, .int (0 : Int32)), (0, .ref b), (1, .ref (ka (jX J) 0)), (2, .ref (ka (jM J) 0)), (3, .ref (jq J)), (4, .int x4)]) hx hb dL_454 hl (by decide) rfl (fun ls hl => ?_)
    refine lv_aload_n hx hb dL_456 rfl (lv_at hl 4 rfl) ?_
    have hW := toM hW
    refine gw_Vi (As := []) (mc' := cells + 2) (ms' := slots + 12) F hW (mMX12_thrown_0 (rfl : fMX12_thrown_0 (jn J) o2.2 = some (o2.2.1 0, o2.2))) (cwV 0 hts (gT_V q_6_214 q_6_215 q_6_216 q_1_12 q_6_217) rfl rfl rfl hdX12_thrown ⟨(Nat.le_of_ble_eq_true rfl), (Nat.le_of_ble_eq_true rfl)⟩) 0 10 (aM_0 _ _) rfl rfl hl.1 rfl (Nat.le_of_ble_eq_true rfl) dL_457 ⟨by show cells + 2 + 0 ≤ 601024; omega, by show slots + 12 + 0 ≤ 7293000; omega⟩ rfl rfl (fun H locs hW => ?_)
    have hW := toX hW
    refine lv_iload hx hb dL_460 (lv_at hl 1 rfl) ?_
    refine lv_icmp_eq (tgt := 467) hx hb dL_462 (by decide) (fun c462 => ?_) (fun c462 => absurd (e2) c462)
    refine lv_iload hx hb dL_467 (lv_at hl 1 rfl) ?_
    refine lv_if_ne (tgt := 484) hx hb dL_469 (by decide) (fun c469 => absurd (rfl) c469) (fun c469 => ?_)
    refine lv_aload_n hx hb dL_472 rfl (lv_at hl 5 rfl) ?_
    refine lv_iconst (v := (0 : Int32)) hx hb dL_473 (by decide) ?_
    have hWo := gX_H (v0 := (if o1.1 = 0 then vp_updL v 0 o1.2.1.toInt64 else v)) hW
    refine gw_lald F hWo 19 8 (aH_o _ _ _) rfl (by decide) dL_474 ?_
    refine lv_iload hx hb dL_475 (lv_at hl 0 rfl) ?_
    refine lv_i2l (v := o2.1.toInt64) hx hb dL_477 rfl ?_
    refine W.lcmp hx hb dL_478 ?_
    refine lv_if_eq (tgt := 484) hx hb dL_479 (by decide) (fun c479 => ?_) (fun c479 => absurd (law_eq e1 (congrArg Int32.toInt64 e3)) c479)
    refine lv_goto (tgt := 1133) hx hb dL_484 (by decide) ?_
    exact W.widen (k := cells + 5) (n := slots + 25) (by omega) (by omega) (nxt _ _ ((if o1.1 = 0 then vp_updL v 0 o1.2.1.toInt64 else v)) H locs ls hI (lv_sub hl [2, 3, 4, 5, 6] rfl) hW)
  · refine lv_aload_n hx hb dL_419 rfl (lv_at hl 1 rfl) ?_
    refine lv_aload_n hx hb dL_420 rfl (lv_at hl 0 rfl) ?_
    refine lv_iload hx hb dL_421 (lv_at hl 4 rfl) ?_
    refine lv_iconst (v := (1 : Int32)) hx hb dL_423 (by decide) ?_
    refine lv_iadd hx hb dL_424 ?_
    refine va_sld hx hb hX hbl hbA hW.2.2.2.1 (hin (1 : Int32) (by decide) (by decide)) dL_425 ?_
    refine lv_aload_n hx hb dL_426 rfl (lv_at hl 0 rfl) ?_
    refine lv_iload hx hb dL_427 (lv_at hl 4 rfl) ?_
    refine lv_iconst (v := (2 : Int32)) hx hb dL_429 (by decide) ?_
    refine lv_iadd hx hb dL_430 ?_
    refine va_sld hx hb hX hbl hbA hW.2.2.2.1 (hin (2 : Int32) (by decide) (by decide)) dL_431 ?_
    refine lv_aload_n hx hb dL_432 rfl (lv_at hl 3 rfl) ?_
    have hWo := gX_H (v0 := v) hW
    refine gh_S (As := [.ref (ka (jX J) 0), .int (xs (x4 + (1 : Int32)).toNatClampNeg), .int (xs (x4 + (2 : Int32)).toNatClampNeg), .ref (jq J)]) (mc' := cells + 2) (ms' := slots + 12) F hZ hN hWo (hL_letter hl9 h1 (Or.inr (Or.inl ⟨e1, rfl⟩))) (gT_I q_5_93) rfl (hG _ q_5_91) (hG _ q_5_92) (hG _ q_1_0) hdX10_letter.2 ⟨(Nat.le_of_ble_eq_true rfl), (Nat.le_of_ble_eq_true rfl)⟩ rfl hl.1 rfl (Nat.le_of_ble_eq_true rfl) dL_433 ⟨by show cells + 2 ≤ 601024; omega, by show slots + 12 ≤ 7293000; omega⟩ rfl rfl (fun H locs hW => ?_)
    have hW := gH_X (J := J) (τ := τ) (v := (if o1.1 = 0 then vp_updL v 0 o1.2.1.toInt64 else v)) hW
    refine lv_istore (lv' := [(5, .int (1 : Int32)), (0, .ref b), (1, .ref (ka (jX J) 0)), (2, .ref (ka (jM J) 0)), (3, .ref (jq J)), (4, .int x4)]) hx hb dL_436 hl (by decide) rfl (fun ls hl => ?_)
    refine lv_aload_n hx hb dL_438 rfl (lv_at hl 3 rfl) ?_
    refine lv_aload_n hx hb dL_439 rfl (lv_at hl 1 rfl) ?_
    refine lv_iload hx hb dL_440 (lv_at hl 5 rfl) ?_
    refine lv_iconst (v := (1 : Int32)) hx hb dL_442 (by decide) ?_
    refine lv_iadd hx hb dL_443 ?_
    refine va_sld hx hb hX hbl hbA hW.2.2.2.1 (hin (1 : Int32) (by decide) (by decide)) dL_444 ?_
    refine lv_aload_n hx hb dL_445 rfl (lv_at hl 1 rfl) ?_
    refine lv_iload hx hb dL_446 (lv_at hl 5 rfl) ?_
    refine lv_iconst (v := (2 : Int32)) hx hb dL_448 (by decide) ?_
    refine lv_iadd hx hb dL_449 ?_
    refine va_sld hx hb hX hbl hbA hW.2.2.2.1 (hin (2 : Int32) (by decide) (by decide)) dL_450 ?_
    have hW := toM hW
    refine gw_Vi (As := [.int (xs (x4 + (1 : Int32)).toNatClampNeg), .int (xs (x4 + (2 : Int32)).toNatClampNeg)]) (mc' := cells + 2) (ms' := slots + 12) F hW (mMX12_letter_0 h2) (cwV 2 hts (gT_V q_7_112 q_7_113 q_7_114 q_1_12 q_7_115) rfl rfl rfl hdX12_letter ⟨(Nat.le_of_ble_eq_true rfl), (Nat.le_of_ble_eq_true rfl)⟩) 0 10 (aM_0 _ _) rfl rfl hl.1 rfl (Nat.le_of_ble_eq_true rfl) dL_451 ⟨by show cells + 2 + 0 ≤ 601024; omega, by show slots + 12 + 0 ≤ 7293000; omega⟩ rfl rfl (fun H locs hW => ?_)
    have hW := toX hW
    refine lv_istore (lv' := [(6, .int o2.1), (5, .int (1 : Int32)), (0, .ref b), (1, .ref (ka (jX J) 0)), (2, .ref (ka (jM J) 0)), (3, .ref (jq J)), (4, .int x4)]) hx hb dL_454 hl (by decide) rfl (fun ls hl => ?_)
    refine lv_aload_n hx hb dL_456 rfl (lv_at hl 4 rfl) ?_
    have hW := toM hW
    refine gw_Vi (As := []) (mc' := cells + 2) (ms' := slots + 12) F hW (mMX12_thrown_0 (rfl : fMX12_thrown_0 (jn J) o2.2 = some (o2.2.1 0, o2.2))) (cwV 0 hts (gT_V q_6_214 q_6_215 q_6_216 q_1_12 q_6_217) rfl rfl rfl hdX12_thrown ⟨(Nat.le_of_ble_eq_true rfl), (Nat.le_of_ble_eq_true rfl)⟩) 0 10 (aM_0 _ _) rfl rfl hl.1 rfl (Nat.le_of_ble_eq_true rfl) dL_457 ⟨by show cells + 2 + 0 ≤ 601024; omega, by show slots + 12 + 0 ≤ 7293000; omega⟩ rfl rfl (fun H locs hW => ?_)
    have hW := toX hW
    refine lv_iload hx hb dL_460 (lv_at hl 1 rfl) ?_
    refine lv_icmp_eq (tgt := 467) hx hb dL_462 (by decide) (fun c462 => ?_) (fun c462 => absurd (e2) c462)
    refine lv_iload hx hb dL_467 (lv_at hl 1 rfl) ?_
    refine lv_if_ne (tgt := 484) hx hb dL_469 (by decide) (fun c469 => ?_) (fun c469 => absurd c469 ((by decide)))
    refine lv_goto (tgt := 1133) hx hb dL_484 (by decide) ?_
    exact W.widen (k := cells + 5) (n := slots + 25) (by omega) (by omega) (nxt _ _ ((if o1.1 = 0 then vp_updL v 0 o1.2.1.toInt64 else v)) H locs ls hI (lv_sub hl [2, 3, 4, 5, 6] rfl) hW)
  · refine lv_aload_n hx hb dL_419 rfl (lv_at hl 1 rfl) ?_
    refine lv_aload_n hx hb dL_420 rfl (lv_at hl 0 rfl) ?_
    refine lv_iload hx hb dL_421 (lv_at hl 4 rfl) ?_
    refine lv_iconst (v := (1 : Int32)) hx hb dL_423 (by decide) ?_
    refine lv_iadd hx hb dL_424 ?_
    refine va_sld hx hb hX hbl hbA hW.2.2.2.1 (hin (1 : Int32) (by decide) (by decide)) dL_425 ?_
    refine lv_aload_n hx hb dL_426 rfl (lv_at hl 0 rfl) ?_
    refine lv_iload hx hb dL_427 (lv_at hl 4 rfl) ?_
    refine lv_iconst (v := (2 : Int32)) hx hb dL_429 (by decide) ?_
    refine lv_iadd hx hb dL_430 ?_
    refine va_sld hx hb hX hbl hbA hW.2.2.2.1 (hin (2 : Int32) (by decide) (by decide)) dL_431 ?_
    refine lv_aload_n hx hb dL_432 rfl (lv_at hl 3 rfl) ?_
    have hWo := gX_H (v0 := v) hW
    refine gh_S (As := [.ref (ka (jX J) 0), .int (xs (x4 + (1 : Int32)).toNatClampNeg), .int (xs (x4 + (2 : Int32)).toNatClampNeg), .ref (jq J)]) (mc' := cells + 2) (ms' := slots + 12) F hZ hN hWo (hL_letter hl9 h1 (Or.inr (Or.inr (⟨e1, rfl⟩)))) (gT_I q_5_93) rfl (hG _ q_5_91) (hG _ q_5_92) (hG _ q_1_0) hdX10_letter.2 ⟨(Nat.le_of_ble_eq_true rfl), (Nat.le_of_ble_eq_true rfl)⟩ rfl hl.1 rfl (Nat.le_of_ble_eq_true rfl) dL_433 ⟨by show cells + 2 ≤ 601024; omega, by show slots + 12 ≤ 7293000; omega⟩ rfl rfl (fun H locs hW => ?_)
    have hW := gH_X (J := J) (τ := τ) (v := (if o1.1 = 0 then vp_updL v 0 o1.2.1.toInt64 else v)) hW
    refine lv_istore (lv' := [(5, .int (2 : Int32)), (0, .ref b), (1, .ref (ka (jX J) 0)), (2, .ref (ka (jM J) 0)), (3, .ref (jq J)), (4, .int x4)]) hx hb dL_436 hl (by decide) rfl (fun ls hl => ?_)
    refine lv_aload_n hx hb dL_438 rfl (lv_at hl 3 rfl) ?_
    refine lv_aload_n hx hb dL_439 rfl (lv_at hl 1 rfl) ?_
    refine lv_iload hx hb dL_440 (lv_at hl 5 rfl) ?_
    refine lv_iconst (v := (1 : Int32)) hx hb dL_442 (by decide) ?_
    refine lv_iadd hx hb dL_443 ?_
    refine va_sld hx hb hX hbl hbA hW.2.2.2.1 (hin (1 : Int32) (by decide) (by decide)) dL_444 ?_
    refine lv_aload_n hx hb dL_445 rfl (lv_at hl 1 rfl) ?_
    refine lv_iload hx hb dL_446 (lv_at hl 5 rfl) ?_
    refine lv_iconst (v := (2 : Int32)) hx hb dL_448 (by decide) ?_
    refine lv_iadd hx hb dL_449 ?_
    refine va_sld hx hb hX hbl hbA hW.2.2.2.1 (hin (2 : Int32) (by decide) (by decide)) dL_450 ?_
    have hW := toM hW
    refine gw_Vi (As := [.int (xs (x4 + (1 : Int32)).toNatClampNeg), .int (xs (x4 + (2 : Int32)).toNatClampNeg)]) (mc' := cells + 2) (ms' := slots + 12) F hW (mMX12_letter_0 h2) (cwV 2 hts (gT_V q_7_112 q_7_113 q_7_114 q_1_12 q_7_115) rfl rfl rfl hdX12_letter ⟨(Nat.le_of_ble_eq_true rfl), (Nat.le_of_ble_eq_true rfl)⟩) 0 10 (aM_0 _ _) rfl rfl hl.1 rfl (Nat.le_of_ble_eq_true rfl) dL_451 ⟨by show cells + 2 + 0 ≤ 601024; omega, by show slots + 12 + 0 ≤ 7293000; omega⟩ rfl rfl (fun H locs hW => ?_)
    have hW := toX hW
    refine lv_istore (lv' := [(6, .int o2.1), (5, .int (2 : Int32)), (0, .ref b), (1, .ref (ka (jX J) 0)), (2, .ref (ka (jM J) 0)), (3, .ref (jq J)), (4, .int x4)]) hx hb dL_454 hl (by decide) rfl (fun ls hl => ?_)
    refine lv_aload_n hx hb dL_456 rfl (lv_at hl 4 rfl) ?_
    have hW := toM hW
    refine gw_Vi (As := []) (mc' := cells + 2) (ms' := slots + 12) F hW (mMX12_thrown_0 (rfl : fMX12_thrown_0 (jn J) o2.2 = some (o2.2.1 0, o2.2))) (cwV 0 hts (gT_V q_6_214 q_6_215 q_6_216 q_1_12 q_6_217) rfl rfl rfl hdX12_thrown ⟨(Nat.le_of_ble_eq_true rfl), (Nat.le_of_ble_eq_true rfl)⟩) 0 10 (aM_0 _ _) rfl rfl hl.1 rfl (Nat.le_of_ble_eq_true rfl) dL_457 ⟨by show cells + 2 + 0 ≤ 601024; omega, by show slots + 12 + 0 ≤ 7293000; omega⟩ rfl rfl (fun H locs hW => ?_)
    have hW := toX hW
    refine lv_iload hx hb dL_460 (lv_at hl 1 rfl) ?_
    refine lv_icmp_eq (tgt := 467) hx hb dL_462 (by decide) (fun c462 => ?_) (fun c462 => absurd (e2) c462)
    refine lv_iload hx hb dL_467 (lv_at hl 1 rfl) ?_
    refine lv_if_ne (tgt := 484) hx hb dL_469 (by decide) (fun c469 => ?_) (fun c469 => absurd c469 ((by decide)))
    refine lv_goto (tgt := 1133) hx hb dL_484 (by decide) ?_
    exact W.widen (k := cells + 5) (n := slots + 25) (by omega) (by omega) (nxt _ _ ((if o1.1 = 0 then vp_updL v 0 o1.2.1.toInt64 else v)) H locs ls hI (lv_sub hl [2, 3, 4, 5, 6] rfl) hW)
set_option maxHeartbeats 4000000 in
set_option maxRecDepth 100000 in
theorem lc_about {p : Program} {l : Launch} {e : Env} {s : State} {m : MethodId} {below : List Frame} {meth : Method} {c : Code} {b L : Nat} {xs : Nat → Int32} {J : LJ} {Inv : XS → XS → Prop} (F : fx_ p s m #[Value.ref b] meth c code 8 ret "InodeDeskLaw" (Cond.initialized "InodeDeskLaw" :: gT)) (hl9 : l.stackTraces = false) (hZ : xz_ (fun q : Nat => s.heap.size ≤ q) s) (hN : xn_ s) (hX : va_X b L xs s s.heap) (hbl : b < s.heap.size) (St : St_all (jn J) Inv) {x4 : Int32} {cells slots : Nat} (hcc : cells + 5 ≤ 601024) (hss : slots + 25 ≤ 7293000) (hin : ∀ k : Int32, 0 ≤ k → k < 6 → vp_in (x4 + k) L) (nxt : lw_next p l e s m below meth c b J Inv x4 cells slots) (σ τ : XS) (v : Nat → Int64) (hI : Inv σ τ) (H : Heap) (locs : List Loc) (ls : Array Slot) (hl : lv_has ls 8 [(0, .ref b), (1, .ref (ka (jX J) 0)), (2, .ref (ka (jM J) 0)), (3, .ref (jq J)), (4, .int x4)]) (hW : gw_ (kD (KC J τ v)) vwCl (tyX (KC J τ v)) (wX (KC J τ v)) (fun q : Nat => s.heap.size ≤ q) s σ H locs) : W p l e room_1 s m #[Value.ref b] below meth c H locs cells slots (lw_Z below #[Value.ref b] s) (F0 m 487 ls []) := by
  have hx := F.1
  have hb := F.2.1
  have hml := F.2.2.2.1
  have hown := F.2.2.2.2.1
  have hts := F.2.2.2.2.2.1
  have hG : ∀ x ∈ gT, x.before _ s = true := fun x h => hts x (List.mem_cons_of_mem _ h)
  have hbA : ¬ (fun q : Nat => s.heap.size ≤ q) b := Nat.not_le.mpr hbl
  obtain ⟨o1, o2, h1, h2, hI, hc⟩ := (St.2.2.2.2.2.2.2.2.1) σ τ (xs (x4 + (1 : Int32)).toNatClampNeg) (xs (x4 + (2 : Int32)).toNatClampNeg) hI
  rcases hc with ⟨e1, e2, e3⟩ | ⟨e1, e2⟩ | ⟨e1, e2⟩ | ⟨e1, e2⟩
  · refine lv_aload_n hx hb dL_487 rfl (lv_at hl 1 rfl) ?_
    refine lv_aload_n hx hb dL_488 rfl (lv_at hl 0 rfl) ?_
    refine lv_iload hx hb dL_489 (lv_at hl 4 rfl) ?_
    refine lv_iconst (v := (1 : Int32)) hx hb dL_491 (by decide) ?_
    refine lv_iadd hx hb dL_492 ?_
    refine va_sld hx hb hX hbl hbA hW.2.2.2.1 (hin (1 : Int32) (by decide) (by decide)) dL_493 ?_
    refine lv_aload_n hx hb dL_494 rfl (lv_at hl 0 rfl) ?_
    refine lv_iload hx hb dL_495 (lv_at hl 4 rfl) ?_
    refine lv_iconst (v := (2 : Int32)) hx hb dL_497 (by decide) ?_
    refine lv_iadd hx hb dL_498 ?_
    refine va_sld hx hb hX hbl hbA hW.2.2.2.1 (hin (2 : Int32) (by decide) (by decide)) dL_499 ?_
    refine lv_aload_n hx hb dL_500 rfl (lv_at hl 3 rfl) ?_
    have hWo := gX_H (v0 := v) hW
    refine gh_S (As := [.ref (ka (jX J) 0), .int (xs (x4 + (1 : Int32)).toNatClampNeg), .int (xs (x4 + (2 : Int32)).toNatClampNeg), .ref (jq J)]) (mc' := cells + 3) (ms' := slots + 18) F hZ hN hWo (hL_about hl9 h1 (Or.inl ⟨e1, rfl⟩)) (gT_I q_5_123) rfl (hG _ q_5_121) (hG _ q_5_122) (hG _ q_1_0) hdX10_about.2 ⟨(Nat.le_of_ble_eq_true rfl), (Nat.le_of_ble_eq_true rfl)⟩ rfl hl.1 rfl (Nat.le_of_ble_eq_true rfl) dL_501 ⟨by show cells + 3 ≤ 601024; omega, by show slots + 18 ≤ 7293000; omega⟩ rfl rfl (fun H locs hW => ?_)
    have hW := gH_X (J := J) (τ := τ) (v := (if o1.1 = 0 then vp_updL v 0 o1.2.1 else v)) hW
    refine lv_istore (lv' := [(5, .int (0 : Int32)), (0, .ref b), (1, .ref (ka (jX J) 0)), (2, .ref (ka (jM J) 0)), (3, .ref (jq J)), (4, .int x4)]) hx hb dL_504 hl (by decide) rfl (fun ls hl => ?_)
    refine lv_aload_n hx hb dL_506 rfl (lv_at hl 3 rfl) ?_
    refine lv_aload_n hx hb dL_507 rfl (lv_at hl 1 rfl) ?_
    refine lv_iload hx hb dL_508 (lv_at hl 5 rfl) ?_
    refine lv_iconst (v := (1 : Int32)) hx hb dL_510 (by decide) ?_
    refine lv_iadd hx hb dL_511 ?_
    refine va_sld hx hb hX hbl hbA hW.2.2.2.1 (hin (1 : Int32) (by decide) (by decide)) dL_512 ?_
    refine lv_aload_n hx hb dL_513 rfl (lv_at hl 1 rfl) ?_
    refine lv_iload hx hb dL_514 (lv_at hl 5 rfl) ?_
    refine lv_iconst (v := (2 : Int32)) hx hb dL_516 (by decide) ?_
    refine lv_iadd hx hb dL_517 ?_
    refine va_sld hx hb hX hbl hbA hW.2.2.2.1 (hin (2 : Int32) (by decide) (by decide)) dL_518 ?_
    have hW := toM hW
    refine gw_Vl (As := [.int (xs (x4 + (1 : Int32)).toNatClampNeg), .int (xs (x4 + (2 : Int32)).toNatClampNeg)]) (mc' := cells + 3) (ms' := slots + 18) F hW (mMX12_about_0 h2) (cwV 2 hts (gT_V q_7_120 q_7_121 q_7_122 q_1_12 q_7_123) rfl rfl rfl hdX12_about ⟨(Nat.le_of_ble_eq_true rfl), (Nat.le_of_ble_eq_true rfl)⟩) 0 10 (aM_0 _ _) rfl rfl hl.1 rfl (Nat.le_of_ble_eq_true rfl) dL_519 ⟨by show cells + 3 + 0 ≤ 601024; omega, by show slots + 18 + 0 ≤ 7293000; omega⟩ rfl rfl (fun H locs hW => ?_)
    have hW := toX hW
    refine lv_lstore (lv' := [(6, .long o2.1), (5, .int (0 : Int32)), (0, .ref b), (1, .ref (ka (jX J) 0)), (2, .ref (ka (jM J) 0)), (3, .ref (jq J)), (4, .int x4)]) hx hb dL_522 hl (by decide) rfl (fun ls hl => ?_)
    refine lv_aload_n hx hb dL_524 rfl (lv_at hl 4 rfl) ?_
    have hW := toM hW
    refine gw_Vi (As := []) (mc' := cells + 3) (ms' := slots + 18) F hW (mMX12_thrown_0 (rfl : fMX12_thrown_0 (jn J) o2.2 = some (o2.2.1 0, o2.2))) (cwV 0 hts (gT_V q_6_214 q_6_215 q_6_216 q_1_12 q_6_217) rfl rfl rfl hdX12_thrown ⟨(Nat.le_of_ble_eq_true rfl), (Nat.le_of_ble_eq_true rfl)⟩) 0 10 (aM_0 _ _) rfl rfl hl.1 rfl (Nat.le_of_ble_eq_true rfl) dL_525 ⟨by show cells + 3 + 0 ≤ 601024; omega, by show slots + 18 + 0 ≤ 7293000; omega⟩ rfl rfl (fun H locs hW => ?_)
    have hW := toX hW
    refine lv_iload hx hb dL_528 (lv_at hl 1 rfl) ?_
    refine lv_icmp_eq (tgt := 535) hx hb dL_530 (by decide) (fun c530 => ?_) (fun c530 => absurd (e2) c530)
    refine lv_iload hx hb dL_535 (lv_at hl 1 rfl) ?_
    refine lv_if_ne (tgt := 551) hx hb dL_537 (by decide) (fun c537 => absurd (rfl) c537) (fun c537 => ?_)
    refine lv_aload_n hx hb dL_540 rfl (lv_at hl 5 rfl) ?_
    refine lv_iconst (v := (0 : Int32)) hx hb dL_541 (by decide) ?_
    have hWo := gX_H (v0 := (if o1.1 = 0 then vp_updL v 0 o1.2.1 else v)) hW
    refine gw_lald F hWo 19 8 (aH_o _ _ _) rfl (by decide) dL_542 ?_
    refine lv_lload hx hb dL_543 (lv_at hl 0 rfl) ?_
    refine W.lcmp hx hb dL_545 ?_
    refine lv_if_eq (tgt := 551) hx hb dL_546 (by decide) (fun c546 => ?_) (fun c546 => absurd (law_eq e1 e3) c546)
    refine lv_goto (tgt := 1133) hx hb dL_551 (by decide) ?_
    exact W.widen (k := cells + 5) (n := slots + 25) (by omega) (by omega) (nxt _ _ ((if o1.1 = 0 then vp_updL v 0 o1.2.1 else v)) H locs ls hI (lv_sub hl [2, 3, 4, 5, 6] rfl) hW)
  · refine lv_aload_n hx hb dL_487 rfl (lv_at hl 1 rfl) ?_
    refine lv_aload_n hx hb dL_488 rfl (lv_at hl 0 rfl) ?_
    refine lv_iload hx hb dL_489 (lv_at hl 4 rfl) ?_
    refine lv_iconst (v := (1 : Int32)) hx hb dL_491 (by decide) ?_
    refine lv_iadd hx hb dL_492 ?_
    refine va_sld hx hb hX hbl hbA hW.2.2.2.1 (hin (1 : Int32) (by decide) (by decide)) dL_493 ?_
    refine lv_aload_n hx hb dL_494 rfl (lv_at hl 0 rfl) ?_
    refine lv_iload hx hb dL_495 (lv_at hl 4 rfl) ?_
    refine lv_iconst (v := (2 : Int32)) hx hb dL_497 (by decide) ?_
    refine lv_iadd hx hb dL_498 ?_
    refine va_sld hx hb hX hbl hbA hW.2.2.2.1 (hin (2 : Int32) (by decide) (by decide)) dL_499 ?_
    refine lv_aload_n hx hb dL_500 rfl (lv_at hl 3 rfl) ?_
    have hWo := gX_H (v0 := v) hW
    refine gh_S (As := [.ref (ka (jX J) 0), .int (xs (x4 + (1 : Int32)).toNatClampNeg), .int (xs (x4 + (2 : Int32)).toNatClampNeg), .ref (jq J)]) (mc' := cells + 3) (ms' := slots + 18) F hZ hN hWo (hL_about hl9 h1 (Or.inr (Or.inl ⟨e1, rfl⟩))) (gT_I q_5_123) rfl (hG _ q_5_121) (hG _ q_5_122) (hG _ q_1_0) hdX10_about.2 ⟨(Nat.le_of_ble_eq_true rfl), (Nat.le_of_ble_eq_true rfl)⟩ rfl hl.1 rfl (Nat.le_of_ble_eq_true rfl) dL_501 ⟨by show cells + 3 ≤ 601024; omega, by show slots + 18 ≤ 7293000; omega⟩ rfl rfl (fun H locs hW => ?_)
    have hW := gH_X (J := J) (τ := τ) (v := (if o1.1 = 0 then vp_updL v 0 o1.2.1 else v)) hW
    refine lv_istore (lv' := [(5, .int (1 : Int32)), (0, .ref b), (1, .ref (ka (jX J) 0)), (2, .ref (ka (jM J) 0)), (3, .ref (jq J)), (4, .int x4)]) hx hb dL_504 hl (by decide) rfl (fun ls hl => ?_)
    refine lv_aload_n hx hb dL_506 rfl (lv_at hl 3 rfl) ?_
    refine lv_aload_n hx hb dL_507 rfl (lv_at hl 1 rfl) ?_
    refine lv_iload hx hb dL_508 (lv_at hl 5 rfl) ?_
    refine lv_iconst (v := (1 : Int32)) hx hb dL_510 (by decide) ?_
    refine lv_iadd hx hb dL_511 ?_
    refine va_sld hx hb hX hbl hbA hW.2.2.2.1 (hin (1 : Int32) (by decide) (by decide)) dL_512 ?_
    refine lv_aload_n hx hb dL_513 rfl (lv_at hl 1 rfl) ?_
    refine lv_iload hx hb dL_514 (lv_at hl 5 rfl) ?_
    refine lv_iconst (v := (2 : Int32)) hx hb dL_516 (by decide) ?_
    refine lv_iadd hx hb dL_517 ?_
    refine va_sld hx hb hX hbl hbA hW.2.2.2.1 (hin (2 : Int32) (by decide) (by decide)) dL_518 ?_
    have hW := toM hW
    refine gw_Vl (As := [.int (xs (x4 + (1 : Int32)).toNatClampNeg), .int (xs (x4 + (2 : Int32)).toNatClampNeg)]) (mc' := cells + 3) (ms' := slots + 18) F hW (mMX12_about_0 h2) (cwV 2 hts (gT_V q_7_120 q_7_121 q_7_122 q_1_12 q_7_123) rfl rfl rfl hdX12_about ⟨(Nat.le_of_ble_eq_true rfl), (Nat.le_of_ble_eq_true rfl)⟩) 0 10 (aM_0 _ _) rfl rfl hl.1 rfl (Nat.le_of_ble_eq_true rfl) dL_519 ⟨by show cells + 3 + 0 ≤ 601024; omega, by show slots + 18 + 0 ≤ 7293000; omega⟩ rfl rfl (fun H locs hW => ?_)
    have hW := toX hW
    refine lv_lstore (lv' := [(6, .long o2.1), (5, .int (1 : Int32)), (0, .ref b), (1, .ref (ka (jX J) 0)), (2, .ref (ka (jM J) 0)), (3, .ref (jq J)), (4, .int x4)]) hx hb dL_522 hl (by decide) rfl (fun ls hl => ?_)
    refine lv_aload_n hx hb dL_524 rfl (lv_at hl 4 rfl) ?_
    have hW := toM hW
    refine gw_Vi (As := []) (mc' := cells + 3) (ms' := slots + 18) F hW (mMX12_thrown_0 (rfl : fMX12_thrown_0 (jn J) o2.2 = some (o2.2.1 0, o2.2))) (cwV 0 hts (gT_V q_6_214 q_6_215 q_6_216 q_1_12 q_6_217) rfl rfl rfl hdX12_thrown ⟨(Nat.le_of_ble_eq_true rfl), (Nat.le_of_ble_eq_true rfl)⟩) 0 10 (aM_0 _ _) rfl rfl hl.1 rfl (Nat.le_of_ble_eq_true rfl) dL_525 ⟨by show cells + 3 + 0 ≤ 601024; omega, by show slots + 18 + 0 ≤ 7293000; omega⟩ rfl rfl (fun H locs hW => ?_)
    have hW := toX hW
    refine lv_iload hx hb dL_528 (lv_at hl 1 rfl) ?_
    refine lv_icmp_eq (tgt := 535) hx hb dL_530 (by decide) (fun c530 => ?_) (fun c530 => absurd (e2) c530)
    refine lv_iload hx hb dL_535 (lv_at hl 1 rfl) ?_
    refine lv_if_ne (tgt := 551) hx hb dL_537 (by decide) (fun c537 => ?_) (fun c537 => absurd c537 ((by decide)))
    refine lv_goto (tgt := 1133) hx hb dL_551 (by decide) ?_
    exact W.widen (k := cells + 5) (n := slots + 25) (by omega) (by omega) (nxt _ _ ((if o1.1 = 0 then vp_updL v 0 o1.2.1 else v)) H locs ls hI (lv_sub hl [2, 3, 4, 5, 6] rfl) hW)
  · refine lv_aload_n hx hb dL_487 rfl (lv_at hl 1 rfl) ?_
    refine lv_aload_n hx hb dL_488 rfl (lv_at hl 0 rfl) ?_
    refine lv_iload hx hb dL_489 (lv_at hl 4 rfl) ?_
    refine lv_iconst (v := (1 : Int32)) hx hb dL_491 (by decide) ?_
    refine lv_iadd hx hb dL_492 ?_
    refine va_sld hx hb hX hbl hbA hW.2.2.2.1 (hin (1 : Int32) (by decide) (by decide)) dL_493 ?_
    refine lv_aload_n hx hb dL_494 rfl (lv_at hl 0 rfl) ?_
    refine lv_iload hx hb dL_495 (lv_at hl 4 rfl) ?_
    refine lv_iconst (v := (2 : Int32)) hx hb dL_497 (by decide) ?_
    refine lv_iadd hx hb dL_498 ?_
    refine va_sld hx hb hX hbl hbA hW.2.2.2.1 (hin (2 : Int32) (by decide) (by decide)) dL_499 ?_
    refine lv_aload_n hx hb dL_500 rfl (lv_at hl 3 rfl) ?_
    have hWo := gX_H (v0 := v) hW
    refine gh_S (As := [.ref (ka (jX J) 0), .int (xs (x4 + (1 : Int32)).toNatClampNeg), .int (xs (x4 + (2 : Int32)).toNatClampNeg), .ref (jq J)]) (mc' := cells + 3) (ms' := slots + 18) F hZ hN hWo (hL_about hl9 h1 (Or.inr (Or.inr (Or.inl ⟨e1, rfl⟩)))) (gT_I q_5_123) rfl (hG _ q_5_121) (hG _ q_5_122) (hG _ q_1_0) hdX10_about.2 ⟨(Nat.le_of_ble_eq_true rfl), (Nat.le_of_ble_eq_true rfl)⟩ rfl hl.1 rfl (Nat.le_of_ble_eq_true rfl) dL_501 ⟨by show cells + 3 ≤ 601024; omega, by show slots + 18 ≤ 7293000; omega⟩ rfl rfl (fun H locs hW => ?_)
    have hW := gH_X (J := J) (τ := τ) (v := (if o1.1 = 0 then vp_updL v 0 o1.2.1 else v)) hW
    refine lv_istore (lv' := [(5, .int (2 : Int32)), (0, .ref b), (1, .ref (ka (jX J) 0)), (2, .ref (ka (jM J) 0)), (3, .ref (jq J)), (4, .int x4)]) hx hb dL_504 hl (by decide) rfl (fun ls hl => ?_)
    refine lv_aload_n hx hb dL_506 rfl (lv_at hl 3 rfl) ?_
    refine lv_aload_n hx hb dL_507 rfl (lv_at hl 1 rfl) ?_
    refine lv_iload hx hb dL_508 (lv_at hl 5 rfl) ?_
    refine lv_iconst (v := (1 : Int32)) hx hb dL_510 (by decide) ?_
    refine lv_iadd hx hb dL_511 ?_
    refine va_sld hx hb hX hbl hbA hW.2.2.2.1 (hin (1 : Int32) (by decide) (by decide)) dL_512 ?_
    refine lv_aload_n hx hb dL_513 rfl (lv_at hl 1 rfl) ?_
    refine lv_iload hx hb dL_514 (lv_at hl 5 rfl) ?_
    refine lv_iconst (v := (2 : Int32)) hx hb dL_516 (by decide) ?_
    refine lv_iadd hx hb dL_517 ?_
    refine va_sld hx hb hX hbl hbA hW.2.2.2.1 (hin (2 : Int32) (by decide) (by decide)) dL_518 ?_
    have hW := toM hW
    refine gw_Vl (As := [.int (xs (x4 + (1 : Int32)).toNatClampNeg), .int (xs (x4 + (2 : Int32)).toNatClampNeg)]) (mc' := cells + 3) (ms' := slots + 18) F hW (mMX12_about_0 h2) (cwV 2 hts (gT_V q_7_120 q_7_121 q_7_122 q_1_12 q_7_123) rfl rfl rfl hdX12_about ⟨(Nat.le_of_ble_eq_true rfl), (Nat.le_of_ble_eq_true rfl)⟩) 0 10 (aM_0 _ _) rfl rfl hl.1 rfl (Nat.le_of_ble_eq_true rfl) dL_519 ⟨by show cells + 3 + 0 ≤ 601024; omega, by show slots + 18 + 0 ≤ 7293000; omega⟩ rfl rfl (fun H locs hW => ?_)
    have hW := toX hW
    refine lv_lstore (lv' := [(6, .long o2.1), (5, .int (2 : Int32)), (0, .ref b), (1, .ref (ka (jX J) 0)), (2, .ref (ka (jM J) 0)), (3, .ref (jq J)), (4, .int x4)]) hx hb dL_522 hl (by decide) rfl (fun ls hl => ?_)
    refine lv_aload_n hx hb dL_524 rfl (lv_at hl 4 rfl) ?_
    have hW := toM hW
    refine gw_Vi (As := []) (mc' := cells + 3) (ms' := slots + 18) F hW (mMX12_thrown_0 (rfl : fMX12_thrown_0 (jn J) o2.2 = some (o2.2.1 0, o2.2))) (cwV 0 hts (gT_V q_6_214 q_6_215 q_6_216 q_1_12 q_6_217) rfl rfl rfl hdX12_thrown ⟨(Nat.le_of_ble_eq_true rfl), (Nat.le_of_ble_eq_true rfl)⟩) 0 10 (aM_0 _ _) rfl rfl hl.1 rfl (Nat.le_of_ble_eq_true rfl) dL_525 ⟨by show cells + 3 + 0 ≤ 601024; omega, by show slots + 18 + 0 ≤ 7293000; omega⟩ rfl rfl (fun H locs hW => ?_)
    have hW := toX hW
    refine lv_iload hx hb dL_528 (lv_at hl 1 rfl) ?_
    refine lv_icmp_eq (tgt := 535) hx hb dL_530 (by decide) (fun c530 => ?_) (fun c530 => absurd (e2) c530)
    refine lv_iload hx hb dL_535 (lv_at hl 1 rfl) ?_
    refine lv_if_ne (tgt := 551) hx hb dL_537 (by decide) (fun c537 => ?_) (fun c537 => absurd c537 ((by decide)))
    refine lv_goto (tgt := 1133) hx hb dL_551 (by decide) ?_
    exact W.widen (k := cells + 5) (n := slots + 25) (by omega) (by omega) (nxt _ _ ((if o1.1 = 0 then vp_updL v 0 o1.2.1 else v)) H locs ls hI (lv_sub hl [2, 3, 4, 5, 6] rfl) hW)
  · refine lv_aload_n hx hb dL_487 rfl (lv_at hl 1 rfl) ?_
    refine lv_aload_n hx hb dL_488 rfl (lv_at hl 0 rfl) ?_
    refine lv_iload hx hb dL_489 (lv_at hl 4 rfl) ?_
    refine lv_iconst (v := (1 : Int32)) hx hb dL_491 (by decide) ?_
    refine lv_iadd hx hb dL_492 ?_
    refine va_sld hx hb hX hbl hbA hW.2.2.2.1 (hin (1 : Int32) (by decide) (by decide)) dL_493 ?_
    refine lv_aload_n hx hb dL_494 rfl (lv_at hl 0 rfl) ?_
    refine lv_iload hx hb dL_495 (lv_at hl 4 rfl) ?_
    refine lv_iconst (v := (2 : Int32)) hx hb dL_497 (by decide) ?_
    refine lv_iadd hx hb dL_498 ?_
    refine va_sld hx hb hX hbl hbA hW.2.2.2.1 (hin (2 : Int32) (by decide) (by decide)) dL_499 ?_
    refine lv_aload_n hx hb dL_500 rfl (lv_at hl 3 rfl) ?_
    have hWo := gX_H (v0 := v) hW
    refine gh_S (As := [.ref (ka (jX J) 0), .int (xs (x4 + (1 : Int32)).toNatClampNeg), .int (xs (x4 + (2 : Int32)).toNatClampNeg), .ref (jq J)]) (mc' := cells + 3) (ms' := slots + 18) F hZ hN hWo (hL_about hl9 h1 (Or.inr (Or.inr (Or.inr (⟨e1, rfl⟩))))) (gT_I q_5_123) rfl (hG _ q_5_121) (hG _ q_5_122) (hG _ q_1_0) hdX10_about.2 ⟨(Nat.le_of_ble_eq_true rfl), (Nat.le_of_ble_eq_true rfl)⟩ rfl hl.1 rfl (Nat.le_of_ble_eq_true rfl) dL_501 ⟨by show cells + 3 ≤ 601024; omega, by show slots + 18 ≤ 7293000; omega⟩ rfl rfl (fun H locs hW => ?_)
    have hW := gH_X (J := J) (τ := τ) (v := (if o1.1 = 0 then vp_updL v 0 o1.2.1 else v)) hW
    refine lv_istore (lv' := [(5, .int (3 : Int32)), (0, .ref b), (1, .ref (ka (jX J) 0)), (2, .ref (ka (jM J) 0)), (3, .ref (jq J)), (4, .int x4)]) hx hb dL_504 hl (by decide) rfl (fun ls hl => ?_)
    refine lv_aload_n hx hb dL_506 rfl (lv_at hl 3 rfl) ?_
    refine lv_aload_n hx hb dL_507 rfl (lv_at hl 1 rfl) ?_
    refine lv_iload hx hb dL_508 (lv_at hl 5 rfl) ?_
    refine lv_iconst (v := (1 : Int32)) hx hb dL_510 (by decide) ?_
    refine lv_iadd hx hb dL_511 ?_
    refine va_sld hx hb hX hbl hbA hW.2.2.2.1 (hin (1 : Int32) (by decide) (by decide)) dL_512 ?_
    refine lv_aload_n hx hb dL_513 rfl (lv_at hl 1 rfl) ?_
    refine lv_iload hx hb dL_514 (lv_at hl 5 rfl) ?_
    refine lv_iconst (v := (2 : Int32)) hx hb dL_516 (by decide) ?_
    refine lv_iadd hx hb dL_517 ?_
    refine va_sld hx hb hX hbl hbA hW.2.2.2.1 (hin (2 : Int32) (by decide) (by decide)) dL_518 ?_
    have hW := toM hW
    refine gw_Vl (As := [.int (xs (x4 + (1 : Int32)).toNatClampNeg), .int (xs (x4 + (2 : Int32)).toNatClampNeg)]) (mc' := cells + 3) (ms' := slots + 18) F hW (mMX12_about_0 h2) (cwV 2 hts (gT_V q_7_120 q_7_121 q_7_122 q_1_12 q_7_123) rfl rfl rfl hdX12_about ⟨(Nat.le_of_ble_eq_true rfl), (Nat.le_of_ble_eq_true rfl)⟩) 0 10 (aM_0 _ _) rfl rfl hl.1 rfl (Nat.le_of_ble_eq_true rfl) dL_519 ⟨by show cells + 3 + 0 ≤ 601024; omega, by show slots + 18 + 0 ≤ 7293000; omega⟩ rfl rfl (fun H locs hW => ?_)
    have hW := toX hW
    refine lv_lstore (lv' := [(6, .long o2.1), (5, .int (3 : Int32)), (0, .ref b), (1, .ref (ka (jX J) 0)), (2, .ref (ka (jM J) 0)), (3, .ref (jq J)), (4, .int x4)]) hx hb dL_522 hl (by decide) rfl (fun ls hl => ?_)
    refine lv_aload_n hx hb dL_524 rfl (lv_at hl 4 rfl) ?_
    have hW := toM hW
    refine gw_Vi (As := []) (mc' := cells + 3) (ms' := slots + 18) F hW (mMX12_thrown_0 (rfl : fMX12_thrown_0 (jn J) o2.2 = some (o2.2.1 0, o2.2))) (cwV 0 hts (gT_V q_6_214 q_6_215 q_6_216 q_1_12 q_6_217) rfl rfl rfl hdX12_thrown ⟨(Nat.le_of_ble_eq_true rfl), (Nat.le_of_ble_eq_true rfl)⟩) 0 10 (aM_0 _ _) rfl rfl hl.1 rfl (Nat.le_of_ble_eq_true rfl) dL_525 ⟨by show cells + 3 + 0 ≤ 601024; omega, by show slots + 18 + 0 ≤ 7293000; omega⟩ rfl rfl (fun H locs hW => ?_)
    have hW := toX hW
    refine lv_iload hx hb dL_528 (lv_at hl 1 rfl) ?_
    refine lv_icmp_eq (tgt := 535) hx hb dL_530 (by decide) (fun c530 => ?_) (fun c530 => absurd (e2) c530)
    refine lv_iload hx hb dL_535 (lv_at hl 1 rfl) ?_
    refine lv_if_ne (tgt := 551) hx hb dL_537 (by decide) (fun c537 => ?_) (fun c537 => absurd c537 ((by decide)))
    refine lv_goto (tgt := 1133) hx hb dL_551 (by decide) ?_
    exact W.widen (k := cells + 5) (n := slots + 25) (by omega) (by omega) (nxt _ _ ((if o1.1 = 0 then vp_updL v 0 o1.2.1 else v)) H locs ls hI (lv_sub hl [2, 3, 4, 5, 6] rfl) hW)
set_option maxHeartbeats 4000000 in
set_option maxRecDepth 100000 in
theorem lc_content {p : Program} {l : Launch} {e : Env} {s : State} {m : MethodId} {below : List Frame} {meth : Method} {c : Code} {b L : Nat} {xs : Nat → Int32} {J : LJ} {Inv : XS → XS → Prop} (F : fx_ p s m #[Value.ref b] meth c code 8 ret "InodeDeskLaw" (Cond.initialized "InodeDeskLaw" :: gT)) (hl9 : l.stackTraces = false) (hZ : xz_ (fun q : Nat => s.heap.size ≤ q) s) (hN : xn_ s) (hX : va_X b L xs s s.heap) (hbl : b < s.heap.size) (St : St_all (jn J) Inv) {x4 : Int32} {cells slots : Nat} (hcc : cells + 5 ≤ 601024) (hss : slots + 25 ≤ 7293000) (hin : ∀ k : Int32, 0 ≤ k → k < 6 → vp_in (x4 + k) L) (nxt : lw_next p l e s m below meth c b J Inv x4 cells slots) (σ τ : XS) (v : Nat → Int64) (hI : Inv σ τ) (H : Heap) (locs : List Loc) (ls : Array Slot) (hl : lv_has ls 8 [(0, .ref b), (1, .ref (ka (jX J) 0)), (2, .ref (ka (jM J) 0)), (3, .ref (jq J)), (4, .int x4)]) (hW : gw_ (kD (KC J τ v)) vwCl (tyX (KC J τ v)) (wX (KC J τ v)) (fun q : Nat => s.heap.size ≤ q) s σ H locs) : W p l e room_1 s m #[Value.ref b] below meth c H locs cells slots (lw_Z below #[Value.ref b] s) (F0 m 554 ls []) := by
  have hx := F.1
  have hb := F.2.1
  have hml := F.2.2.2.1
  have hown := F.2.2.2.2.1
  have hts := F.2.2.2.2.2.1
  have hG : ∀ x ∈ gT, x.before _ s = true := fun x h => hts x (List.mem_cons_of_mem _ h)
  have hbA : ¬ (fun q : Nat => s.heap.size ≤ q) b := Nat.not_le.mpr hbl
  obtain ⟨o1, o2, h1, h2, hI, hc⟩ := (St.2.2.2.2.2.2.2.2.2.1) σ τ (xs (x4 + (1 : Int32)).toNatClampNeg) (xs (x4 + (2 : Int32)).toNatClampNeg) hI
  rcases hc with ⟨e1, e2, e3⟩ | ⟨e1, e2⟩ | ⟨e1, e2⟩
  · refine lv_aload_n hx hb dL_554 rfl (lv_at hl 1 rfl) ?_
    refine lv_aload_n hx hb dL_555 rfl (lv_at hl 0 rfl) ?_
    refine lv_iload hx hb dL_556 (lv_at hl 4 rfl) ?_
    refine lv_iconst (v := (1 : Int32)) hx hb dL_558 (by decide) ?_
    refine lv_iadd hx hb dL_559 ?_
    refine va_sld hx hb hX hbl hbA hW.2.2.2.1 (hin (1 : Int32) (by decide) (by decide)) dL_560 ?_
    refine lv_aload_n hx hb dL_561 rfl (lv_at hl 0 rfl) ?_
    refine lv_iload hx hb dL_562 (lv_at hl 4 rfl) ?_
    refine lv_iconst (v := (2 : Int32)) hx hb dL_564 (by decide) ?_
    refine lv_iadd hx hb dL_565 ?_
    refine va_sld hx hb hX hbl hbA hW.2.2.2.1 (hin (2 : Int32) (by decide) (by decide)) dL_566 ?_
    refine lv_aload_n hx hb dL_567 rfl (lv_at hl 3 rfl) ?_
    have hWo := gX_H (v0 := v) hW
    refine gh_S (As := [.ref (ka (jX J) 0), .int (xs (x4 + (1 : Int32)).toNatClampNeg), .int (xs (x4 + (2 : Int32)).toNatClampNeg), .ref (jq J)]) (mc' := cells + 2) (ms' := slots + 12) F hZ hN hWo (hL_content hl9 h1 (Or.inl ⟨e1, rfl⟩)) (gT_I q_5_140) rfl (hG _ q_5_138) (hG _ q_5_139) (hG _ q_1_0) hdX10_content.2 ⟨(Nat.le_of_ble_eq_true rfl), (Nat.le_of_ble_eq_true rfl)⟩ rfl hl.1 rfl (Nat.le_of_ble_eq_true rfl) dL_568 ⟨by show cells + 2 ≤ 601024; omega, by show slots + 12 ≤ 7293000; omega⟩ rfl rfl (fun H locs hW => ?_)
    have hW := gH_X (J := J) (τ := τ) (v := (if o1.1 = 0 then vp_updL v 0 o1.2.1.toInt64 else v)) hW
    refine lv_istore (lv' := [(5, .int (0 : Int32)), (0, .ref b), (1, .ref (ka (jX J) 0)), (2, .ref (ka (jM J) 0)), (3, .ref (jq J)), (4, .int x4)]) hx hb dL_571 hl (by decide) rfl (fun ls hl => ?_)
    refine lv_aload_n hx hb dL_573 rfl (lv_at hl 3 rfl) ?_
    refine lv_aload_n hx hb dL_574 rfl (lv_at hl 1 rfl) ?_
    refine lv_iload hx hb dL_575 (lv_at hl 5 rfl) ?_
    refine lv_iconst (v := (1 : Int32)) hx hb dL_577 (by decide) ?_
    refine lv_iadd hx hb dL_578 ?_
    refine va_sld hx hb hX hbl hbA hW.2.2.2.1 (hin (1 : Int32) (by decide) (by decide)) dL_579 ?_
    refine lv_aload_n hx hb dL_580 rfl (lv_at hl 1 rfl) ?_
    refine lv_iload hx hb dL_581 (lv_at hl 5 rfl) ?_
    refine lv_iconst (v := (2 : Int32)) hx hb dL_583 (by decide) ?_
    refine lv_iadd hx hb dL_584 ?_
    refine va_sld hx hb hX hbl hbA hW.2.2.2.1 (hin (2 : Int32) (by decide) (by decide)) dL_585 ?_
    have hW := toM hW
    refine gw_Vi (As := [.int (xs (x4 + (1 : Int32)).toNatClampNeg), .int (xs (x4 + (2 : Int32)).toNatClampNeg)]) (mc' := cells + 2) (ms' := slots + 12) F hW (mMX12_content_0 h2) (cwV 2 hts (gT_V q_7_124 q_7_125 q_7_126 q_1_12 q_7_127) rfl rfl rfl hdX12_content ⟨(Nat.le_of_ble_eq_true rfl), (Nat.le_of_ble_eq_true rfl)⟩) 0 10 (aM_0 _ _) rfl rfl hl.1 rfl (Nat.le_of_ble_eq_true rfl) dL_586 ⟨by show cells + 2 + 0 ≤ 601024; omega, by show slots + 12 + 0 ≤ 7293000; omega⟩ rfl rfl (fun H locs hW => ?_)
    have hW := toX hW
    refine lv_istore (lv' := [(6, .int o2.1), (5, .int (0 : Int32)), (0, .ref b), (1, .ref (ka (jX J) 0)), (2, .ref (ka (jM J) 0)), (3, .ref (jq J)), (4, .int x4)]) hx hb dL_589 hl (by decide) rfl (fun ls hl => ?_)
    refine lv_aload_n hx hb dL_591 rfl (lv_at hl 4 rfl) ?_
    have hW := toM hW
    refine gw_Vi (As := []) (mc' := cells + 2) (ms' := slots + 12) F hW (mMX12_thrown_0 (rfl : fMX12_thrown_0 (jn J) o2.2 = some (o2.2.1 0, o2.2))) (cwV 0 hts (gT_V q_6_214 q_6_215 q_6_216 q_1_12 q_6_217) rfl rfl rfl hdX12_thrown ⟨(Nat.le_of_ble_eq_true rfl), (Nat.le_of_ble_eq_true rfl)⟩) 0 10 (aM_0 _ _) rfl rfl hl.1 rfl (Nat.le_of_ble_eq_true rfl) dL_592 ⟨by show cells + 2 + 0 ≤ 601024; omega, by show slots + 12 + 0 ≤ 7293000; omega⟩ rfl rfl (fun H locs hW => ?_)
    have hW := toX hW
    refine lv_iload hx hb dL_595 (lv_at hl 1 rfl) ?_
    refine lv_icmp_eq (tgt := 602) hx hb dL_597 (by decide) (fun c597 => ?_) (fun c597 => absurd (e2) c597)
    refine lv_iload hx hb dL_602 (lv_at hl 1 rfl) ?_
    refine lv_if_ne (tgt := 619) hx hb dL_604 (by decide) (fun c604 => absurd (rfl) c604) (fun c604 => ?_)
    refine lv_aload_n hx hb dL_607 rfl (lv_at hl 5 rfl) ?_
    refine lv_iconst (v := (0 : Int32)) hx hb dL_608 (by decide) ?_
    have hWo := gX_H (v0 := (if o1.1 = 0 then vp_updL v 0 o1.2.1.toInt64 else v)) hW
    refine gw_lald F hWo 19 8 (aH_o _ _ _) rfl (by decide) dL_609 ?_
    refine lv_iload hx hb dL_610 (lv_at hl 0 rfl) ?_
    refine lv_i2l (v := o2.1.toInt64) hx hb dL_612 rfl ?_
    refine W.lcmp hx hb dL_613 ?_
    refine lv_if_eq (tgt := 619) hx hb dL_614 (by decide) (fun c614 => ?_) (fun c614 => absurd (law_eq e1 (congrArg Int32.toInt64 e3)) c614)
    refine lv_goto (tgt := 1133) hx hb dL_619 (by decide) ?_
    exact W.widen (k := cells + 5) (n := slots + 25) (by omega) (by omega) (nxt _ _ ((if o1.1 = 0 then vp_updL v 0 o1.2.1.toInt64 else v)) H locs ls hI (lv_sub hl [2, 3, 4, 5, 6] rfl) hW)
  · refine lv_aload_n hx hb dL_554 rfl (lv_at hl 1 rfl) ?_
    refine lv_aload_n hx hb dL_555 rfl (lv_at hl 0 rfl) ?_
    refine lv_iload hx hb dL_556 (lv_at hl 4 rfl) ?_
    refine lv_iconst (v := (1 : Int32)) hx hb dL_558 (by decide) ?_
    refine lv_iadd hx hb dL_559 ?_
    refine va_sld hx hb hX hbl hbA hW.2.2.2.1 (hin (1 : Int32) (by decide) (by decide)) dL_560 ?_
    refine lv_aload_n hx hb dL_561 rfl (lv_at hl 0 rfl) ?_
    refine lv_iload hx hb dL_562 (lv_at hl 4 rfl) ?_
    refine lv_iconst (v := (2 : Int32)) hx hb dL_564 (by decide) ?_
    refine lv_iadd hx hb dL_565 ?_
    refine va_sld hx hb hX hbl hbA hW.2.2.2.1 (hin (2 : Int32) (by decide) (by decide)) dL_566 ?_
    refine lv_aload_n hx hb dL_567 rfl (lv_at hl 3 rfl) ?_
    have hWo := gX_H (v0 := v) hW
    refine gh_S (As := [.ref (ka (jX J) 0), .int (xs (x4 + (1 : Int32)).toNatClampNeg), .int (xs (x4 + (2 : Int32)).toNatClampNeg), .ref (jq J)]) (mc' := cells + 2) (ms' := slots + 12) F hZ hN hWo (hL_content hl9 h1 (Or.inr (Or.inl ⟨e1, rfl⟩))) (gT_I q_5_140) rfl (hG _ q_5_138) (hG _ q_5_139) (hG _ q_1_0) hdX10_content.2 ⟨(Nat.le_of_ble_eq_true rfl), (Nat.le_of_ble_eq_true rfl)⟩ rfl hl.1 rfl (Nat.le_of_ble_eq_true rfl) dL_568 ⟨by show cells + 2 ≤ 601024; omega, by show slots + 12 ≤ 7293000; omega⟩ rfl rfl (fun H locs hW => ?_)
    have hW := gH_X (J := J) (τ := τ) (v := (if o1.1 = 0 then vp_updL v 0 o1.2.1.toInt64 else v)) hW
    refine lv_istore (lv' := [(5, .int (1 : Int32)), (0, .ref b), (1, .ref (ka (jX J) 0)), (2, .ref (ka (jM J) 0)), (3, .ref (jq J)), (4, .int x4)]) hx hb dL_571 hl (by decide) rfl (fun ls hl => ?_)
    refine lv_aload_n hx hb dL_573 rfl (lv_at hl 3 rfl) ?_
    refine lv_aload_n hx hb dL_574 rfl (lv_at hl 1 rfl) ?_
    refine lv_iload hx hb dL_575 (lv_at hl 5 rfl) ?_
    refine lv_iconst (v := (1 : Int32)) hx hb dL_577 (by decide) ?_
    refine lv_iadd hx hb dL_578 ?_
    refine va_sld hx hb hX hbl hbA hW.2.2.2.1 (hin (1 : Int32) (by decide) (by decide)) dL_579 ?_
    refine lv_aload_n hx hb dL_580 rfl (lv_at hl 1 rfl) ?_
    refine lv_iload hx hb dL_581 (lv_at hl 5 rfl) ?_
    refine lv_iconst (v := (2 : Int32)) hx hb dL_583 (by decide) ?_
    refine lv_iadd hx hb dL_584 ?_
    refine va_sld hx hb hX hbl hbA hW.2.2.2.1 (hin (2 : Int32) (by decide) (by decide)) dL_585 ?_
    have hW := toM hW
    refine gw_Vi (As := [.int (xs (x4 + (1 : Int32)).toNatClampNeg), .int (xs (x4 + (2 : Int32)).toNatClampNeg)]) (mc' := cells + 2) (ms' := slots + 12) F hW (mMX12_content_0 h2) (cwV 2 hts (gT_V q_7_124 q_7_125 q_7_126 q_1_12 q_7_127) rfl rfl rfl hdX12_content ⟨(Nat.le_of_ble_eq_true rfl), (Nat.le_of_ble_eq_true rfl)⟩) 0 10 (aM_0 _ _) rfl rfl hl.1 rfl (Nat.le_of_ble_eq_true rfl) dL_586 ⟨by show cells + 2 + 0 ≤ 601024; omega, by show slots + 12 + 0 ≤ 7293000; omega⟩ rfl rfl (fun H locs hW => ?_)
    have hW := toX hW
    refine lv_istore (lv' := [(6, .int o2.1), (5, .int (1 : Int32)), (0, .ref b), (1, .ref (ka (jX J) 0)), (2, .ref (ka (jM J) 0)), (3, .ref (jq J)), (4, .int x4)]) hx hb dL_589 hl (by decide) rfl (fun ls hl => ?_)
    refine lv_aload_n hx hb dL_591 rfl (lv_at hl 4 rfl) ?_
    have hW := toM hW
    refine gw_Vi (As := []) (mc' := cells + 2) (ms' := slots + 12) F hW (mMX12_thrown_0 (rfl : fMX12_thrown_0 (jn J) o2.2 = some (o2.2.1 0, o2.2))) (cwV 0 hts (gT_V q_6_214 q_6_215 q_6_216 q_1_12 q_6_217) rfl rfl rfl hdX12_thrown ⟨(Nat.le_of_ble_eq_true rfl), (Nat.le_of_ble_eq_true rfl)⟩) 0 10 (aM_0 _ _) rfl rfl hl.1 rfl (Nat.le_of_ble_eq_true rfl) dL_592 ⟨by show cells + 2 + 0 ≤ 601024; omega, by show slots + 12 + 0 ≤ 7293000; omega⟩ rfl rfl (fun H locs hW => ?_)
    have hW := toX hW
    refine lv_iload hx hb dL_595 (lv_at hl 1 rfl) ?_
    refine lv_icmp_eq (tgt := 602) hx hb dL_597 (by decide) (fun c597 => ?_) (fun c597 => absurd (e2) c597)
    refine lv_iload hx hb dL_602 (lv_at hl 1 rfl) ?_
    refine lv_if_ne (tgt := 619) hx hb dL_604 (by decide) (fun c604 => ?_) (fun c604 => absurd c604 ((by decide)))
    refine lv_goto (tgt := 1133) hx hb dL_619 (by decide) ?_
    exact W.widen (k := cells + 5) (n := slots + 25) (by omega) (by omega) (nxt _ _ ((if o1.1 = 0 then vp_updL v 0 o1.2.1.toInt64 else v)) H locs ls hI (lv_sub hl [2, 3, 4, 5, 6] rfl) hW)
  · refine lv_aload_n hx hb dL_554 rfl (lv_at hl 1 rfl) ?_
    refine lv_aload_n hx hb dL_555 rfl (lv_at hl 0 rfl) ?_
    refine lv_iload hx hb dL_556 (lv_at hl 4 rfl) ?_
    refine lv_iconst (v := (1 : Int32)) hx hb dL_558 (by decide) ?_
    refine lv_iadd hx hb dL_559 ?_
    refine va_sld hx hb hX hbl hbA hW.2.2.2.1 (hin (1 : Int32) (by decide) (by decide)) dL_560 ?_
    refine lv_aload_n hx hb dL_561 rfl (lv_at hl 0 rfl) ?_
    refine lv_iload hx hb dL_562 (lv_at hl 4 rfl) ?_
    refine lv_iconst (v := (2 : Int32)) hx hb dL_564 (by decide) ?_
    refine lv_iadd hx hb dL_565 ?_
    refine va_sld hx hb hX hbl hbA hW.2.2.2.1 (hin (2 : Int32) (by decide) (by decide)) dL_566 ?_
    refine lv_aload_n hx hb dL_567 rfl (lv_at hl 3 rfl) ?_
    have hWo := gX_H (v0 := v) hW
    refine gh_S (As := [.ref (ka (jX J) 0), .int (xs (x4 + (1 : Int32)).toNatClampNeg), .int (xs (x4 + (2 : Int32)).toNatClampNeg), .ref (jq J)]) (mc' := cells + 2) (ms' := slots + 12) F hZ hN hWo (hL_content hl9 h1 (Or.inr (Or.inr (⟨e1, rfl⟩)))) (gT_I q_5_140) rfl (hG _ q_5_138) (hG _ q_5_139) (hG _ q_1_0) hdX10_content.2 ⟨(Nat.le_of_ble_eq_true rfl), (Nat.le_of_ble_eq_true rfl)⟩ rfl hl.1 rfl (Nat.le_of_ble_eq_true rfl) dL_568 ⟨by show cells + 2 ≤ 601024; omega, by show slots + 12 ≤ 7293000; omega⟩ rfl rfl (fun H locs hW => ?_)
    have hW := gH_X (J := J) (τ := τ) (v := (if o1.1 = 0 then vp_updL v 0 o1.2.1.toInt64 else v)) hW
    refine lv_istore (lv' := [(5, .int (2 : Int32)), (0, .ref b), (1, .ref (ka (jX J) 0)), (2, .ref (ka (jM J) 0)), (3, .ref (jq J)), (4, .int x4)]) hx hb dL_571 hl (by decide) rfl (fun ls hl => ?_)
    refine lv_aload_n hx hb dL_573 rfl (lv_at hl 3 rfl) ?_
    refine lv_aload_n hx hb dL_574 rfl (lv_at hl 1 rfl) ?_
    refine lv_iload hx hb dL_575 (lv_at hl 5 rfl) ?_
    refine lv_iconst (v := (1 : Int32)) hx hb dL_577 (by decide) ?_
    refine lv_iadd hx hb dL_578 ?_
    refine va_sld hx hb hX hbl hbA hW.2.2.2.1 (hin (1 : Int32) (by decide) (by decide)) dL_579 ?_
    refine lv_aload_n hx hb dL_580 rfl (lv_at hl 1 rfl) ?_
    refine lv_iload hx hb dL_581 (lv_at hl 5 rfl) ?_
    refine lv_iconst (v := (2 : Int32)) hx hb dL_583 (by decide) ?_
    refine lv_iadd hx hb dL_584 ?_
    refine va_sld hx hb hX hbl hbA hW.2.2.2.1 (hin (2 : Int32) (by decide) (by decide)) dL_585 ?_
    have hW := toM hW
    refine gw_Vi (As := [.int (xs (x4 + (1 : Int32)).toNatClampNeg), .int (xs (x4 + (2 : Int32)).toNatClampNeg)]) (mc' := cells + 2) (ms' := slots + 12) F hW (mMX12_content_0 h2) (cwV 2 hts (gT_V q_7_124 q_7_125 q_7_126 q_1_12 q_7_127) rfl rfl rfl hdX12_content ⟨(Nat.le_of_ble_eq_true rfl), (Nat.le_of_ble_eq_true rfl)⟩) 0 10 (aM_0 _ _) rfl rfl hl.1 rfl (Nat.le_of_ble_eq_true rfl) dL_586 ⟨by show cells + 2 + 0 ≤ 601024; omega, by show slots + 12 + 0 ≤ 7293000; omega⟩ rfl rfl (fun H locs hW => ?_)
    have hW := toX hW
    refine lv_istore (lv' := [(6, .int o2.1), (5, .int (2 : Int32)), (0, .ref b), (1, .ref (ka (jX J) 0)), (2, .ref (ka (jM J) 0)), (3, .ref (jq J)), (4, .int x4)]) hx hb dL_589 hl (by decide) rfl (fun ls hl => ?_)
    refine lv_aload_n hx hb dL_591 rfl (lv_at hl 4 rfl) ?_
    have hW := toM hW
    refine gw_Vi (As := []) (mc' := cells + 2) (ms' := slots + 12) F hW (mMX12_thrown_0 (rfl : fMX12_thrown_0 (jn J) o2.2 = some (o2.2.1 0, o2.2))) (cwV 0 hts (gT_V q_6_214 q_6_215 q_6_216 q_1_12 q_6_217) rfl rfl rfl hdX12_thrown ⟨(Nat.le_of_ble_eq_true rfl), (Nat.le_of_ble_eq_true rfl)⟩) 0 10 (aM_0 _ _) rfl rfl hl.1 rfl (Nat.le_of_ble_eq_true rfl) dL_592 ⟨by show cells + 2 + 0 ≤ 601024; omega, by show slots + 12 + 0 ≤ 7293000; omega⟩ rfl rfl (fun H locs hW => ?_)
    have hW := toX hW
    refine lv_iload hx hb dL_595 (lv_at hl 1 rfl) ?_
    refine lv_icmp_eq (tgt := 602) hx hb dL_597 (by decide) (fun c597 => ?_) (fun c597 => absurd (e2) c597)
    refine lv_iload hx hb dL_602 (lv_at hl 1 rfl) ?_
    refine lv_if_ne (tgt := 619) hx hb dL_604 (by decide) (fun c604 => ?_) (fun c604 => absurd c604 ((by decide)))
    refine lv_goto (tgt := 1133) hx hb dL_619 (by decide) ?_
    exact W.widen (k := cells + 5) (n := slots + 25) (by omega) (by omega) (nxt _ _ ((if o1.1 = 0 then vp_updL v 0 o1.2.1.toInt64 else v)) H locs ls hI (lv_sub hl [2, 3, 4, 5, 6] rfl) hW)
set_option maxHeartbeats 4000000 in
set_option maxRecDepth 100000 in
theorem lc_enter {p : Program} {l : Launch} {e : Env} {s : State} {m : MethodId} {below : List Frame} {meth : Method} {c : Code} {b L : Nat} {xs : Nat → Int32} {J : LJ} {Inv : XS → XS → Prop} (F : fx_ p s m #[Value.ref b] meth c code 8 ret "InodeDeskLaw" (Cond.initialized "InodeDeskLaw" :: gT)) (hl9 : l.stackTraces = false) (hZ : xz_ (fun q : Nat => s.heap.size ≤ q) s) (hN : xn_ s) (hX : va_X b L xs s s.heap) (hbl : b < s.heap.size) (St : St_all (jn J) Inv) {x4 : Int32} {cells slots : Nat} (hcc : cells + 5 ≤ 601024) (hss : slots + 25 ≤ 7293000) (hin : ∀ k : Int32, 0 ≤ k → k < 6 → vp_in (x4 + k) L) (nxt : lw_next p l e s m below meth c b J Inv x4 cells slots) (σ τ : XS) (v : Nat → Int64) (hI : Inv σ τ) (H : Heap) (locs : List Loc) (ls : Array Slot) (hl : lv_has ls 8 [(0, .ref b), (1, .ref (ka (jX J) 0)), (2, .ref (ka (jM J) 0)), (3, .ref (jq J)), (4, .int x4)]) (hW : gw_ (kD (KC J τ v)) vwCl (tyX (KC J τ v)) (wX (KC J τ v)) (fun q : Nat => s.heap.size ≤ q) s σ H locs) : W p l e room_1 s m #[Value.ref b] below meth c H locs cells slots (lw_Z below #[Value.ref b] s) (F0 m 622 ls []) := by
  have hx := F.1
  have hb := F.2.1
  have hml := F.2.2.2.1
  have hown := F.2.2.2.2.1
  have hts := F.2.2.2.2.2.1
  have hG : ∀ x ∈ gT, x.before _ s = true := fun x h => hts x (List.mem_cons_of_mem _ h)
  have hbA : ¬ (fun q : Nat => s.heap.size ≤ q) b := Nat.not_le.mpr hbl
  obtain ⟨o1, o2, h1, h2, hI, hc⟩ := (St.2.2.2.2.2.2.2.2.2.2.1) σ τ (xs (x4 + (1 : Int32)).toNatClampNeg) hI
  rcases hc with ⟨e1, e2, e3⟩ | ⟨e1, e2⟩ | ⟨e1, e2⟩ | ⟨e1, e2⟩
  · refine lv_aload_n hx hb dL_622 rfl (lv_at hl 1 rfl) ?_
    refine lv_aload_n hx hb dL_623 rfl (lv_at hl 0 rfl) ?_
    refine lv_iload hx hb dL_624 (lv_at hl 4 rfl) ?_
    refine lv_iconst (v := (1 : Int32)) hx hb dL_626 (by decide) ?_
    refine lv_iadd hx hb dL_627 ?_
    refine va_sld hx hb hX hbl hbA hW.2.2.2.1 (hin (1 : Int32) (by decide) (by decide)) dL_628 ?_
    refine lv_aload_n hx hb dL_629 rfl (lv_at hl 3 rfl) ?_
    have hWo := gX_H (v0 := v) hW
    refine gh_S (As := [.ref (ka (jX J) 0), .int (xs (x4 + (1 : Int32)).toNatClampNeg), .ref (jq J)]) (mc' := cells + 3) (ms' := slots + 18) F hZ hN hWo (hL_enter hl9 h1 (Or.inl ⟨e1, rfl⟩)) (gT_I q_5_148) rfl (hG _ q_5_146) (hG _ q_5_147) (hG _ q_1_0) hdX10_enter.2 ⟨(Nat.le_of_ble_eq_true rfl), (Nat.le_of_ble_eq_true rfl)⟩ rfl hl.1 rfl (Nat.le_of_ble_eq_true rfl) dL_630 ⟨by show cells + 3 ≤ 601024; omega, by show slots + 18 ≤ 7293000; omega⟩ rfl rfl (fun H locs hW => ?_)
    have hW := gH_X (J := J) (τ := τ) (v := (if o1.1 = 0 then vp_updL v 0 o1.2.1.toInt64 else v)) hW
    refine lv_istore (lv' := [(5, .int (0 : Int32)), (0, .ref b), (1, .ref (ka (jX J) 0)), (2, .ref (ka (jM J) 0)), (3, .ref (jq J)), (4, .int x4)]) hx hb dL_633 hl (by decide) rfl (fun ls hl => ?_)
    refine lv_aload_n hx hb dL_635 rfl (lv_at hl 3 rfl) ?_
    refine lv_aload_n hx hb dL_636 rfl (lv_at hl 1 rfl) ?_
    refine lv_iload hx hb dL_637 (lv_at hl 5 rfl) ?_
    refine lv_iconst (v := (1 : Int32)) hx hb dL_639 (by decide) ?_
    refine lv_iadd hx hb dL_640 ?_
    refine va_sld hx hb hX hbl hbA hW.2.2.2.1 (hin (1 : Int32) (by decide) (by decide)) dL_641 ?_
    have hW := toM hW
    refine gw_Vi (As := [.int (xs (x4 + (1 : Int32)).toNatClampNeg)]) (mc' := cells + 3) (ms' := slots + 18) F hW (mMX12_enter_0 h2) (cwV 1 hts (gT_V q_7_132 q_7_133 q_7_134 q_1_12 q_7_135) rfl rfl rfl hdX12_enter ⟨(Nat.le_of_ble_eq_true rfl), (Nat.le_of_ble_eq_true rfl)⟩) 0 10 (aM_0 _ _) rfl rfl hl.1 rfl (Nat.le_of_ble_eq_true rfl) dL_642 ⟨by show cells + 3 + 0 ≤ 601024; omega, by show slots + 18 + 0 ≤ 7293000; omega⟩ rfl rfl (fun H locs hW => ?_)
    have hW := toX hW
    refine lv_istore (lv' := [(6, .int o2.1), (5, .int (0 : Int32)), (0, .ref b), (1, .ref (ka (jX J) 0)), (2, .ref (ka (jM J) 0)), (3, .ref (jq J)), (4, .int x4)]) hx hb dL_645 hl (by decide) rfl (fun ls hl => ?_)
    refine lv_aload_n hx hb dL_647 rfl (lv_at hl 4 rfl) ?_
    have hW := toM hW
    refine gw_Vi (As := []) (mc' := cells + 3) (ms' := slots + 18) F hW (mMX12_thrown_0 (rfl : fMX12_thrown_0 (jn J) o2.2 = some (o2.2.1 0, o2.2))) (cwV 0 hts (gT_V q_6_214 q_6_215 q_6_216 q_1_12 q_6_217) rfl rfl rfl hdX12_thrown ⟨(Nat.le_of_ble_eq_true rfl), (Nat.le_of_ble_eq_true rfl)⟩) 0 10 (aM_0 _ _) rfl rfl hl.1 rfl (Nat.le_of_ble_eq_true rfl) dL_648 ⟨by show cells + 3 + 0 ≤ 601024; omega, by show slots + 18 + 0 ≤ 7293000; omega⟩ rfl rfl (fun H locs hW => ?_)
    have hW := toX hW
    refine lv_iload hx hb dL_651 (lv_at hl 1 rfl) ?_
    refine lv_icmp_eq (tgt := 658) hx hb dL_653 (by decide) (fun c653 => ?_) (fun c653 => absurd (e2) c653)
    refine lv_iload hx hb dL_658 (lv_at hl 1 rfl) ?_
    refine lv_if_ne (tgt := 675) hx hb dL_660 (by decide) (fun c660 => absurd (rfl) c660) (fun c660 => ?_)
    refine lv_aload_n hx hb dL_663 rfl (lv_at hl 5 rfl) ?_
    refine lv_iconst (v := (0 : Int32)) hx hb dL_664 (by decide) ?_
    have hWo := gX_H (v0 := (if o1.1 = 0 then vp_updL v 0 o1.2.1.toInt64 else v)) hW
    refine gw_lald F hWo 19 8 (aH_o _ _ _) rfl (by decide) dL_665 ?_
    refine lv_iload hx hb dL_666 (lv_at hl 0 rfl) ?_
    refine lv_i2l (v := o2.1.toInt64) hx hb dL_668 rfl ?_
    refine W.lcmp hx hb dL_669 ?_
    refine lv_if_eq (tgt := 675) hx hb dL_670 (by decide) (fun c670 => ?_) (fun c670 => absurd (law_eq e1 (congrArg Int32.toInt64 e3)) c670)
    refine lv_goto (tgt := 1133) hx hb dL_675 (by decide) ?_
    exact W.widen (k := cells + 5) (n := slots + 25) (by omega) (by omega) (nxt _ _ ((if o1.1 = 0 then vp_updL v 0 o1.2.1.toInt64 else v)) H locs ls hI (lv_sub hl [2, 3, 4, 5, 6] rfl) hW)
  · refine lv_aload_n hx hb dL_622 rfl (lv_at hl 1 rfl) ?_
    refine lv_aload_n hx hb dL_623 rfl (lv_at hl 0 rfl) ?_
    refine lv_iload hx hb dL_624 (lv_at hl 4 rfl) ?_
    refine lv_iconst (v := (1 : Int32)) hx hb dL_626 (by decide) ?_
    refine lv_iadd hx hb dL_627 ?_
    refine va_sld hx hb hX hbl hbA hW.2.2.2.1 (hin (1 : Int32) (by decide) (by decide)) dL_628 ?_
    refine lv_aload_n hx hb dL_629 rfl (lv_at hl 3 rfl) ?_
    have hWo := gX_H (v0 := v) hW
    refine gh_S (As := [.ref (ka (jX J) 0), .int (xs (x4 + (1 : Int32)).toNatClampNeg), .ref (jq J)]) (mc' := cells + 3) (ms' := slots + 18) F hZ hN hWo (hL_enter hl9 h1 (Or.inr (Or.inl ⟨e1, rfl⟩))) (gT_I q_5_148) rfl (hG _ q_5_146) (hG _ q_5_147) (hG _ q_1_0) hdX10_enter.2 ⟨(Nat.le_of_ble_eq_true rfl), (Nat.le_of_ble_eq_true rfl)⟩ rfl hl.1 rfl (Nat.le_of_ble_eq_true rfl) dL_630 ⟨by show cells + 3 ≤ 601024; omega, by show slots + 18 ≤ 7293000; omega⟩ rfl rfl (fun H locs hW => ?_)
    have hW := gH_X (J := J) (τ := τ) (v := (if o1.1 = 0 then vp_updL v 0 o1.2.1.toInt64 else v)) hW
    refine lv_istore (lv' := [(5, .int (1 : Int32)), (0, .ref b), (1, .ref (ka (jX J) 0)), (2, .ref (ka (jM J) 0)), (3, .ref (jq J)), (4, .int x4)]) hx hb dL_633 hl (by decide) rfl (fun ls hl => ?_)
    refine lv_aload_n hx hb dL_635 rfl (lv_at hl 3 rfl) ?_
    refine lv_aload_n hx hb dL_636 rfl (lv_at hl 1 rfl) ?_
    refine lv_iload hx hb dL_637 (lv_at hl 5 rfl) ?_
    refine lv_iconst (v := (1 : Int32)) hx hb dL_639 (by decide) ?_
    refine lv_iadd hx hb dL_640 ?_
    refine va_sld hx hb hX hbl hbA hW.2.2.2.1 (hin (1 : Int32) (by decide) (by decide)) dL_641 ?_
    have hW := toM hW
    refine gw_Vi (As := [.int (xs (x4 + (1 : Int32)).toNatClampNeg)]) (mc' := cells + 3) (ms' := slots + 18) F hW (mMX12_enter_0 h2) (cwV 1 hts (gT_V q_7_132 q_7_133 q_7_134 q_1_12 q_7_135) rfl rfl rfl hdX12_enter ⟨(Nat.le_of_ble_eq_true rfl), (Nat.le_of_ble_eq_true rfl)⟩) 0 10 (aM_0 _ _) rfl rfl hl.1 rfl (Nat.le_of_ble_eq_true rfl) dL_642 ⟨by show cells + 3 + 0 ≤ 601024; omega, by show slots + 18 + 0 ≤ 7293000; omega⟩ rfl rfl (fun H locs hW => ?_)
    have hW := toX hW
    refine lv_istore (lv' := [(6, .int o2.1), (5, .int (1 : Int32)), (0, .ref b), (1, .ref (ka (jX J) 0)), (2, .ref (ka (jM J) 0)), (3, .ref (jq J)), (4, .int x4)]) hx hb dL_645 hl (by decide) rfl (fun ls hl => ?_)
    refine lv_aload_n hx hb dL_647 rfl (lv_at hl 4 rfl) ?_
    have hW := toM hW
    refine gw_Vi (As := []) (mc' := cells + 3) (ms' := slots + 18) F hW (mMX12_thrown_0 (rfl : fMX12_thrown_0 (jn J) o2.2 = some (o2.2.1 0, o2.2))) (cwV 0 hts (gT_V q_6_214 q_6_215 q_6_216 q_1_12 q_6_217) rfl rfl rfl hdX12_thrown ⟨(Nat.le_of_ble_eq_true rfl), (Nat.le_of_ble_eq_true rfl)⟩) 0 10 (aM_0 _ _) rfl rfl hl.1 rfl (Nat.le_of_ble_eq_true rfl) dL_648 ⟨by show cells + 3 + 0 ≤ 601024; omega, by show slots + 18 + 0 ≤ 7293000; omega⟩ rfl rfl (fun H locs hW => ?_)
    have hW := toX hW
    refine lv_iload hx hb dL_651 (lv_at hl 1 rfl) ?_
    refine lv_icmp_eq (tgt := 658) hx hb dL_653 (by decide) (fun c653 => ?_) (fun c653 => absurd (e2) c653)
    refine lv_iload hx hb dL_658 (lv_at hl 1 rfl) ?_
    refine lv_if_ne (tgt := 675) hx hb dL_660 (by decide) (fun c660 => ?_) (fun c660 => absurd c660 ((by decide)))
    refine lv_goto (tgt := 1133) hx hb dL_675 (by decide) ?_
    exact W.widen (k := cells + 5) (n := slots + 25) (by omega) (by omega) (nxt _ _ ((if o1.1 = 0 then vp_updL v 0 o1.2.1.toInt64 else v)) H locs ls hI (lv_sub hl [2, 3, 4, 5, 6] rfl) hW)
  · refine lv_aload_n hx hb dL_622 rfl (lv_at hl 1 rfl) ?_
    refine lv_aload_n hx hb dL_623 rfl (lv_at hl 0 rfl) ?_
    refine lv_iload hx hb dL_624 (lv_at hl 4 rfl) ?_
    refine lv_iconst (v := (1 : Int32)) hx hb dL_626 (by decide) ?_
    refine lv_iadd hx hb dL_627 ?_
    refine va_sld hx hb hX hbl hbA hW.2.2.2.1 (hin (1 : Int32) (by decide) (by decide)) dL_628 ?_
    refine lv_aload_n hx hb dL_629 rfl (lv_at hl 3 rfl) ?_
    have hWo := gX_H (v0 := v) hW
    refine gh_S (As := [.ref (ka (jX J) 0), .int (xs (x4 + (1 : Int32)).toNatClampNeg), .ref (jq J)]) (mc' := cells + 3) (ms' := slots + 18) F hZ hN hWo (hL_enter hl9 h1 (Or.inr (Or.inr (Or.inl ⟨e1, rfl⟩)))) (gT_I q_5_148) rfl (hG _ q_5_146) (hG _ q_5_147) (hG _ q_1_0) hdX10_enter.2 ⟨(Nat.le_of_ble_eq_true rfl), (Nat.le_of_ble_eq_true rfl)⟩ rfl hl.1 rfl (Nat.le_of_ble_eq_true rfl) dL_630 ⟨by show cells + 3 ≤ 601024; omega, by show slots + 18 ≤ 7293000; omega⟩ rfl rfl (fun H locs hW => ?_)
    have hW := gH_X (J := J) (τ := τ) (v := (if o1.1 = 0 then vp_updL v 0 o1.2.1.toInt64 else v)) hW
    refine lv_istore (lv' := [(5, .int (2 : Int32)), (0, .ref b), (1, .ref (ka (jX J) 0)), (2, .ref (ka (jM J) 0)), (3, .ref (jq J)), (4, .int x4)]) hx hb dL_633 hl (by decide) rfl (fun ls hl => ?_)
    refine lv_aload_n hx hb dL_635 rfl (lv_at hl 3 rfl) ?_
    refine lv_aload_n hx hb dL_636 rfl (lv_at hl 1 rfl) ?_
    refine lv_iload hx hb dL_637 (lv_at hl 5 rfl) ?_
    refine lv_iconst (v := (1 : Int32)) hx hb dL_639 (by decide) ?_
    refine lv_iadd hx hb dL_640 ?_
    refine va_sld hx hb hX hbl hbA hW.2.2.2.1 (hin (1 : Int32) (by decide) (by decide)) dL_641 ?_
    have hW := toM hW
    refine gw_Vi (As := [.int (xs (x4 + (1 : Int32)).toNatClampNeg)]) (mc' := cells + 3) (ms' := slots + 18) F hW (mMX12_enter_0 h2) (cwV 1 hts (gT_V q_7_132 q_7_133 q_7_134 q_1_12 q_7_135) rfl rfl rfl hdX12_enter ⟨(Nat.le_of_ble_eq_true rfl), (Nat.le_of_ble_eq_true rfl)⟩) 0 10 (aM_0 _ _) rfl rfl hl.1 rfl (Nat.le_of_ble_eq_true rfl) dL_642 ⟨by show cells + 3 + 0 ≤ 601024; omega, by show slots + 18 + 0 ≤ 7293000; omega⟩ rfl rfl (fun H locs hW => ?_)
    have hW := toX hW
    refine lv_istore (lv' := [(6, .int o2.1), (5, .int (2 : Int32)), (0, .ref b), (1, .ref (ka (jX J) 0)), (2, .ref (ka (jM J) 0)), (3, .ref (jq J)), (4, .int x4)]) hx hb dL_645 hl (by decide) rfl (fun ls hl => ?_)
    refine lv_aload_n hx hb dL_647 rfl (lv_at hl 4 rfl) ?_
    have hW := toM hW
    refine gw_Vi (As := []) (mc' := cells + 3) (ms' := slots + 18) F hW (mMX12_thrown_0 (rfl : fMX12_thrown_0 (jn J) o2.2 = some (o2.2.1 0, o2.2))) (cwV 0 hts (gT_V q_6_214 q_6_215 q_6_216 q_1_12 q_6_217) rfl rfl rfl hdX12_thrown ⟨(Nat.le_of_ble_eq_true rfl), (Nat.le_of_ble_eq_true rfl)⟩) 0 10 (aM_0 _ _) rfl rfl hl.1 rfl (Nat.le_of_ble_eq_true rfl) dL_648 ⟨by show cells + 3 + 0 ≤ 601024; omega, by show slots + 18 + 0 ≤ 7293000; omega⟩ rfl rfl (fun H locs hW => ?_)
    have hW := toX hW
    refine lv_iload hx hb dL_651 (lv_at hl 1 rfl) ?_
    refine lv_icmp_eq (tgt := 658) hx hb dL_653 (by decide) (fun c653 => ?_) (fun c653 => absurd (e2) c653)
    refine lv_iload hx hb dL_658 (lv_at hl 1 rfl) ?_
    refine lv_if_ne (tgt := 675) hx hb dL_660 (by decide) (fun c660 => ?_) (fun c660 => absurd c660 ((by decide)))
    refine lv_goto (tgt := 1133) hx hb dL_675 (by decide) ?_
    exact W.widen (k := cells + 5) (n := slots + 25) (by omega) (by omega) (nxt _ _ ((if o1.1 = 0 then vp_updL v 0 o1.2.1.toInt64 else v)) H locs ls hI (lv_sub hl [2, 3, 4, 5, 6] rfl) hW)
  · refine lv_aload_n hx hb dL_622 rfl (lv_at hl 1 rfl) ?_
    refine lv_aload_n hx hb dL_623 rfl (lv_at hl 0 rfl) ?_
    refine lv_iload hx hb dL_624 (lv_at hl 4 rfl) ?_
    refine lv_iconst (v := (1 : Int32)) hx hb dL_626 (by decide) ?_
    refine lv_iadd hx hb dL_627 ?_
    refine va_sld hx hb hX hbl hbA hW.2.2.2.1 (hin (1 : Int32) (by decide) (by decide)) dL_628 ?_
    refine lv_aload_n hx hb dL_629 rfl (lv_at hl 3 rfl) ?_
    have hWo := gX_H (v0 := v) hW
    refine gh_S (As := [.ref (ka (jX J) 0), .int (xs (x4 + (1 : Int32)).toNatClampNeg), .ref (jq J)]) (mc' := cells + 3) (ms' := slots + 18) F hZ hN hWo (hL_enter hl9 h1 (Or.inr (Or.inr (Or.inr (⟨e1, rfl⟩))))) (gT_I q_5_148) rfl (hG _ q_5_146) (hG _ q_5_147) (hG _ q_1_0) hdX10_enter.2 ⟨(Nat.le_of_ble_eq_true rfl), (Nat.le_of_ble_eq_true rfl)⟩ rfl hl.1 rfl (Nat.le_of_ble_eq_true rfl) dL_630 ⟨by show cells + 3 ≤ 601024; omega, by show slots + 18 ≤ 7293000; omega⟩ rfl rfl (fun H locs hW => ?_)
    have hW := gH_X (J := J) (τ := τ) (v := (if o1.1 = 0 then vp_updL v 0 o1.2.1.toInt64 else v)) hW
    refine lv_istore (lv' := [(5, .int (3 : Int32)), (0, .ref b), (1, .ref (ka (jX J) 0)), (2, .ref (ka (jM J) 0)), (3, .ref (jq J)), (4, .int x4)]) hx hb dL_633 hl (by decide) rfl (fun ls hl => ?_)
    refine lv_aload_n hx hb dL_635 rfl (lv_at hl 3 rfl) ?_
    refine lv_aload_n hx hb dL_636 rfl (lv_at hl 1 rfl) ?_
    refine lv_iload hx hb dL_637 (lv_at hl 5 rfl) ?_
    refine lv_iconst (v := (1 : Int32)) hx hb dL_639 (by decide) ?_
    refine lv_iadd hx hb dL_640 ?_
    refine va_sld hx hb hX hbl hbA hW.2.2.2.1 (hin (1 : Int32) (by decide) (by decide)) dL_641 ?_
    have hW := toM hW
    refine gw_Vi (As := [.int (xs (x4 + (1 : Int32)).toNatClampNeg)]) (mc' := cells + 3) (ms' := slots + 18) F hW (mMX12_enter_0 h2) (cwV 1 hts (gT_V q_7_132 q_7_133 q_7_134 q_1_12 q_7_135) rfl rfl rfl hdX12_enter ⟨(Nat.le_of_ble_eq_true rfl), (Nat.le_of_ble_eq_true rfl)⟩) 0 10 (aM_0 _ _) rfl rfl hl.1 rfl (Nat.le_of_ble_eq_true rfl) dL_642 ⟨by show cells + 3 + 0 ≤ 601024; omega, by show slots + 18 + 0 ≤ 7293000; omega⟩ rfl rfl (fun H locs hW => ?_)
    have hW := toX hW
    refine lv_istore (lv' := [(6, .int o2.1), (5, .int (3 : Int32)), (0, .ref b), (1, .ref (ka (jX J) 0)), (2, .ref (ka (jM J) 0)), (3, .ref (jq J)), (4, .int x4)]) hx hb dL_645 hl (by decide) rfl (fun ls hl => ?_)
    refine lv_aload_n hx hb dL_647 rfl (lv_at hl 4 rfl) ?_
    have hW := toM hW
    refine gw_Vi (As := []) (mc' := cells + 3) (ms' := slots + 18) F hW (mMX12_thrown_0 (rfl : fMX12_thrown_0 (jn J) o2.2 = some (o2.2.1 0, o2.2))) (cwV 0 hts (gT_V q_6_214 q_6_215 q_6_216 q_1_12 q_6_217) rfl rfl rfl hdX12_thrown ⟨(Nat.le_of_ble_eq_true rfl), (Nat.le_of_ble_eq_true rfl)⟩) 0 10 (aM_0 _ _) rfl rfl hl.1 rfl (Nat.le_of_ble_eq_true rfl) dL_648 ⟨by show cells + 3 + 0 ≤ 601024; omega, by show slots + 18 + 0 ≤ 7293000; omega⟩ rfl rfl (fun H locs hW => ?_)
    have hW := toX hW
    refine lv_iload hx hb dL_651 (lv_at hl 1 rfl) ?_
    refine lv_icmp_eq (tgt := 658) hx hb dL_653 (by decide) (fun c653 => ?_) (fun c653 => absurd (e2) c653)
    refine lv_iload hx hb dL_658 (lv_at hl 1 rfl) ?_
    refine lv_if_ne (tgt := 675) hx hb dL_660 (by decide) (fun c660 => ?_) (fun c660 => absurd c660 ((by decide)))
    refine lv_goto (tgt := 1133) hx hb dL_675 (by decide) ?_
    exact W.widen (k := cells + 5) (n := slots + 25) (by omega) (by omega) (nxt _ _ ((if o1.1 = 0 then vp_updL v 0 o1.2.1.toInt64 else v)) H locs ls hI (lv_sub hl [2, 3, 4, 5, 6] rfl) hW)
set_option maxHeartbeats 4000000 in
set_option maxRecDepth 100000 in
theorem lc_up {p : Program} {l : Launch} {e : Env} {s : State} {m : MethodId} {below : List Frame} {meth : Method} {c : Code} {b L : Nat} {xs : Nat → Int32} {J : LJ} {Inv : XS → XS → Prop} (F : fx_ p s m #[Value.ref b] meth c code 8 ret "InodeDeskLaw" (Cond.initialized "InodeDeskLaw" :: gT)) (hl9 : l.stackTraces = false) (hZ : xz_ (fun q : Nat => s.heap.size ≤ q) s) (hN : xn_ s) (hX : va_X b L xs s s.heap) (hbl : b < s.heap.size) (St : St_all (jn J) Inv) {x4 : Int32} {cells slots : Nat} (hcc : cells + 5 ≤ 601024) (hss : slots + 25 ≤ 7293000) (hin : ∀ k : Int32, 0 ≤ k → k < 6 → vp_in (x4 + k) L) (nxt : lw_next p l e s m below meth c b J Inv x4 cells slots) (σ τ : XS) (v : Nat → Int64) (hI : Inv σ τ) (H : Heap) (locs : List Loc) (ls : Array Slot) (hl : lv_has ls 8 [(0, .ref b), (1, .ref (ka (jX J) 0)), (2, .ref (ka (jM J) 0)), (3, .ref (jq J)), (4, .int x4)]) (hW : gw_ (kD (KC J τ v)) vwCl (tyX (KC J τ v)) (wX (KC J τ v)) (fun q : Nat => s.heap.size ≤ q) s σ H locs) : W p l e room_1 s m #[Value.ref b] below meth c H locs cells slots (lw_Z below #[Value.ref b] s) (F0 m 678 ls []) := by
  have hx := F.1
  have hb := F.2.1
  have hml := F.2.2.2.1
  have hown := F.2.2.2.2.1
  have hts := F.2.2.2.2.2.1
  have hG : ∀ x ∈ gT, x.before _ s = true := fun x h => hts x (List.mem_cons_of_mem _ h)
  have hbA : ¬ (fun q : Nat => s.heap.size ≤ q) b := Nat.not_le.mpr hbl
  obtain ⟨o1, o2, h1, h2, hI, hc⟩ := (St.2.2.2.2.2.2.2.2.2.2.2.1) σ τ  hI
  rcases hc with ⟨e1, e2, e3, e4⟩ | ⟨e1, e2⟩
  · rcases e4 with e5 | e5
    · refine lv_aload_n hx hb dL_678 rfl (lv_at hl 1 rfl) ?_
      refine lv_aload_n hx hb dL_679 rfl (lv_at hl 3 rfl) ?_
      have hWo := gX_H (v0 := v) hW
      refine gh_S (As := [.ref (ka (jX J) 0), .ref (jq J)]) (mc' := cells + 1) (ms' := slots + 6) F hZ hN hWo (hL_up hl9 h1 (Or.inl ⟨e1, rfl⟩)) (gT_I q_5_156) rfl (hG _ q_5_154) (hG _ q_5_155) (hG _ q_1_0) hdX10_up.2 ⟨(Nat.le_of_ble_eq_true rfl), (Nat.le_of_ble_eq_true rfl)⟩ rfl hl.1 rfl (Nat.le_of_ble_eq_true rfl) dL_680 ⟨by show cells + 1 ≤ 601024; omega, by show slots + 6 ≤ 7293000; omega⟩ rfl rfl (fun H locs hW => ?_)
      have hW := gH_X (J := J) (τ := τ) (v := (if o1.1 = 0 then vp_updL v 0 (if o1.2.1 = 0 then (0 : Int64) else 1) else v)) hW
      refine lv_istore (lv' := [(5, .int (0 : Int32)), (0, .ref b), (1, .ref (ka (jX J) 0)), (2, .ref (ka (jM J) 0)), (3, .ref (jq J)), (4, .int x4)]) hx hb dL_683 hl (by decide) rfl (fun ls hl => ?_)
      refine lv_aload_n hx hb dL_685 rfl (lv_at hl 3 rfl) ?_
      have hW := toM hW
      refine gw_Vz (As := []) (mc' := cells + 1) (ms' := slots + 6) F hW (mMX12_up_0 h2) (cwV 0 hts (gT_V q_7_136 q_7_137 q_7_138 q_1_12 q_7_139) rfl rfl rfl hdX12_up ⟨(Nat.le_of_ble_eq_true rfl), (Nat.le_of_ble_eq_true rfl)⟩) 0 10 (aM_0 _ _) rfl rfl hl.1 rfl (Nat.le_of_ble_eq_true rfl) dL_686 ⟨by show cells + 1 + 0 ≤ 601024; omega, by show slots + 6 + 0 ≤ 7293000; omega⟩ rfl rfl (fun H locs _ hW => ?_)
      have hW := toX hW
      refine lv_istore (lv' := [(6, .int o2.1), (5, .int (0 : Int32)), (0, .ref b), (1, .ref (ka (jX J) 0)), (2, .ref (ka (jM J) 0)), (3, .ref (jq J)), (4, .int x4)]) hx hb dL_689 hl (by decide) rfl (fun ls hl => ?_)
      refine lv_aload_n hx hb dL_691 rfl (lv_at hl 4 rfl) ?_
      have hW := toM hW
      refine gw_Vi (As := []) (mc' := cells + 1) (ms' := slots + 6) F hW (mMX12_thrown_0 (rfl : fMX12_thrown_0 (jn J) o2.2 = some (o2.2.1 0, o2.2))) (cwV 0 hts (gT_V q_6_214 q_6_215 q_6_216 q_1_12 q_6_217) rfl rfl rfl hdX12_thrown ⟨(Nat.le_of_ble_eq_true rfl), (Nat.le_of_ble_eq_true rfl)⟩) 0 10 (aM_0 _ _) rfl rfl hl.1 rfl (Nat.le_of_ble_eq_true rfl) dL_692 ⟨by show cells + 1 + 0 ≤ 601024; omega, by show slots + 6 + 0 ≤ 7293000; omega⟩ rfl rfl (fun H locs hW => ?_)
      have hW := toX hW
      refine lv_iload hx hb dL_695 (lv_at hl 1 rfl) ?_
      refine lv_icmp_eq (tgt := 702) hx hb dL_697 (by decide) (fun c697 => ?_) (fun c697 => absurd (e2) c697)
      refine lv_iload hx hb dL_702 (lv_at hl 1 rfl) ?_
      refine lv_if_ne (tgt := 726) hx hb dL_704 (by decide) (fun c704 => absurd (rfl) c704) (fun c704 => ?_)
      refine lv_aload_n hx hb dL_707 rfl (lv_at hl 5 rfl) ?_
      refine lv_iconst (v := (0 : Int32)) hx hb dL_708 (by decide) ?_
      have hWo := gX_H (v0 := (if o1.1 = 0 then vp_updL v 0 (if o1.2.1 = 0 then (0 : Int64) else 1) else v)) hW
      refine gw_lald F hWo 19 8 (aH_o _ _ _) rfl (by decide) dL_709 ?_
      refine lv_iload hx hb dL_710 (lv_at hl 0 rfl) ?_
      refine lv_if_eq (tgt := 719) hx hb dL_712 (by decide) (fun c712 => ?_) (fun c712 => absurd (e5) c712)
      refine lv_lconst (v := (0 : Int64)) hx hb dL_719 (by decide) ?_
      refine W.lcmp hx hb dL_720 ?_
      refine lv_if_eq (tgt := 726) hx hb dL_721 (by decide) (fun c721 => ?_) (fun c721 => absurd (law_eq e1 (by rw [e3, e5]; decide)) c721)
      refine lv_goto (tgt := 1133) hx hb dL_726 (by decide) ?_
      exact W.widen (k := cells + 5) (n := slots + 25) (by omega) (by omega) (nxt _ _ ((if o1.1 = 0 then vp_updL v 0 (if o1.2.1 = 0 then (0 : Int64) else 1) else v)) H locs ls hI (lv_sub hl [2, 3, 4, 5, 6] rfl) hW)
    · refine lv_aload_n hx hb dL_678 rfl (lv_at hl 1 rfl) ?_
      refine lv_aload_n hx hb dL_679 rfl (lv_at hl 3 rfl) ?_
      have hWo := gX_H (v0 := v) hW
      refine gh_S (As := [.ref (ka (jX J) 0), .ref (jq J)]) (mc' := cells + 1) (ms' := slots + 6) F hZ hN hWo (hL_up hl9 h1 (Or.inl ⟨e1, rfl⟩)) (gT_I q_5_156) rfl (hG _ q_5_154) (hG _ q_5_155) (hG _ q_1_0) hdX10_up.2 ⟨(Nat.le_of_ble_eq_true rfl), (Nat.le_of_ble_eq_true rfl)⟩ rfl hl.1 rfl (Nat.le_of_ble_eq_true rfl) dL_680 ⟨by show cells + 1 ≤ 601024; omega, by show slots + 6 ≤ 7293000; omega⟩ rfl rfl (fun H locs hW => ?_)
      have hW := gH_X (J := J) (τ := τ) (v := (if o1.1 = 0 then vp_updL v 0 (if o1.2.1 = 0 then (0 : Int64) else 1) else v)) hW
      refine lv_istore (lv' := [(5, .int (0 : Int32)), (0, .ref b), (1, .ref (ka (jX J) 0)), (2, .ref (ka (jM J) 0)), (3, .ref (jq J)), (4, .int x4)]) hx hb dL_683 hl (by decide) rfl (fun ls hl => ?_)
      refine lv_aload_n hx hb dL_685 rfl (lv_at hl 3 rfl) ?_
      have hW := toM hW
      refine gw_Vz (As := []) (mc' := cells + 1) (ms' := slots + 6) F hW (mMX12_up_0 h2) (cwV 0 hts (gT_V q_7_136 q_7_137 q_7_138 q_1_12 q_7_139) rfl rfl rfl hdX12_up ⟨(Nat.le_of_ble_eq_true rfl), (Nat.le_of_ble_eq_true rfl)⟩) 0 10 (aM_0 _ _) rfl rfl hl.1 rfl (Nat.le_of_ble_eq_true rfl) dL_686 ⟨by show cells + 1 + 0 ≤ 601024; omega, by show slots + 6 + 0 ≤ 7293000; omega⟩ rfl rfl (fun H locs _ hW => ?_)
      have hW := toX hW
      refine lv_istore (lv' := [(6, .int o2.1), (5, .int (0 : Int32)), (0, .ref b), (1, .ref (ka (jX J) 0)), (2, .ref (ka (jM J) 0)), (3, .ref (jq J)), (4, .int x4)]) hx hb dL_689 hl (by decide) rfl (fun ls hl => ?_)
      refine lv_aload_n hx hb dL_691 rfl (lv_at hl 4 rfl) ?_
      have hW := toM hW
      refine gw_Vi (As := []) (mc' := cells + 1) (ms' := slots + 6) F hW (mMX12_thrown_0 (rfl : fMX12_thrown_0 (jn J) o2.2 = some (o2.2.1 0, o2.2))) (cwV 0 hts (gT_V q_6_214 q_6_215 q_6_216 q_1_12 q_6_217) rfl rfl rfl hdX12_thrown ⟨(Nat.le_of_ble_eq_true rfl), (Nat.le_of_ble_eq_true rfl)⟩) 0 10 (aM_0 _ _) rfl rfl hl.1 rfl (Nat.le_of_ble_eq_true rfl) dL_692 ⟨by show cells + 1 + 0 ≤ 601024; omega, by show slots + 6 + 0 ≤ 7293000; omega⟩ rfl rfl (fun H locs hW => ?_)
      have hW := toX hW
      refine lv_iload hx hb dL_695 (lv_at hl 1 rfl) ?_
      refine lv_icmp_eq (tgt := 702) hx hb dL_697 (by decide) (fun c697 => ?_) (fun c697 => absurd (e2) c697)
      refine lv_iload hx hb dL_702 (lv_at hl 1 rfl) ?_
      refine lv_if_ne (tgt := 726) hx hb dL_704 (by decide) (fun c704 => absurd (rfl) c704) (fun c704 => ?_)
      refine lv_aload_n hx hb dL_707 rfl (lv_at hl 5 rfl) ?_
      refine lv_iconst (v := (0 : Int32)) hx hb dL_708 (by decide) ?_
      have hWo := gX_H (v0 := (if o1.1 = 0 then vp_updL v 0 (if o1.2.1 = 0 then (0 : Int64) else 1) else v)) hW
      refine gw_lald F hWo 19 8 (aH_o _ _ _) rfl (by decide) dL_709 ?_
      refine lv_iload hx hb dL_710 (lv_at hl 0 rfl) ?_
      refine lv_if_eq (tgt := 719) hx hb dL_712 (by decide) (fun c712 => absurd c712 (by rw [e5]; decide)) (fun c712 => ?_)
      refine lv_lconst (v := (1 : Int64)) hx hb dL_715 (by decide) ?_
      refine lv_goto (tgt := 720) hx hb dL_716 (by decide) ?_
      refine W.lcmp hx hb dL_720 ?_
      refine lv_if_eq (tgt := 726) hx hb dL_721 (by decide) (fun c721 => ?_) (fun c721 => absurd (law_eq e1 (by rw [e3, e5]; decide)) c721)
      refine lv_goto (tgt := 1133) hx hb dL_726 (by decide) ?_
      exact W.widen (k := cells + 5) (n := slots + 25) (by omega) (by omega) (nxt _ _ ((if o1.1 = 0 then vp_updL v 0 (if o1.2.1 = 0 then (0 : Int64) else 1) else v)) H locs ls hI (lv_sub hl [2, 3, 4, 5, 6] rfl) hW)
  · refine lv_aload_n hx hb dL_678 rfl (lv_at hl 1 rfl) ?_
    refine lv_aload_n hx hb dL_679 rfl (lv_at hl 3 rfl) ?_
    have hWo := gX_H (v0 := v) hW
    refine gh_S (As := [.ref (ka (jX J) 0), .ref (jq J)]) (mc' := cells + 1) (ms' := slots + 6) F hZ hN hWo (hL_up hl9 h1 (Or.inr (⟨e1, rfl⟩))) (gT_I q_5_156) rfl (hG _ q_5_154) (hG _ q_5_155) (hG _ q_1_0) hdX10_up.2 ⟨(Nat.le_of_ble_eq_true rfl), (Nat.le_of_ble_eq_true rfl)⟩ rfl hl.1 rfl (Nat.le_of_ble_eq_true rfl) dL_680 ⟨by show cells + 1 ≤ 601024; omega, by show slots + 6 ≤ 7293000; omega⟩ rfl rfl (fun H locs hW => ?_)
    have hW := gH_X (J := J) (τ := τ) (v := (if o1.1 = 0 then vp_updL v 0 (if o1.2.1 = 0 then (0 : Int64) else 1) else v)) hW
    refine lv_istore (lv' := [(5, .int (1 : Int32)), (0, .ref b), (1, .ref (ka (jX J) 0)), (2, .ref (ka (jM J) 0)), (3, .ref (jq J)), (4, .int x4)]) hx hb dL_683 hl (by decide) rfl (fun ls hl => ?_)
    refine lv_aload_n hx hb dL_685 rfl (lv_at hl 3 rfl) ?_
    have hW := toM hW
    refine gw_Vz (As := []) (mc' := cells + 1) (ms' := slots + 6) F hW (mMX12_up_0 h2) (cwV 0 hts (gT_V q_7_136 q_7_137 q_7_138 q_1_12 q_7_139) rfl rfl rfl hdX12_up ⟨(Nat.le_of_ble_eq_true rfl), (Nat.le_of_ble_eq_true rfl)⟩) 0 10 (aM_0 _ _) rfl rfl hl.1 rfl (Nat.le_of_ble_eq_true rfl) dL_686 ⟨by show cells + 1 + 0 ≤ 601024; omega, by show slots + 6 + 0 ≤ 7293000; omega⟩ rfl rfl (fun H locs _ hW => ?_)
    have hW := toX hW
    refine lv_istore (lv' := [(6, .int o2.1), (5, .int (1 : Int32)), (0, .ref b), (1, .ref (ka (jX J) 0)), (2, .ref (ka (jM J) 0)), (3, .ref (jq J)), (4, .int x4)]) hx hb dL_689 hl (by decide) rfl (fun ls hl => ?_)
    refine lv_aload_n hx hb dL_691 rfl (lv_at hl 4 rfl) ?_
    have hW := toM hW
    refine gw_Vi (As := []) (mc' := cells + 1) (ms' := slots + 6) F hW (mMX12_thrown_0 (rfl : fMX12_thrown_0 (jn J) o2.2 = some (o2.2.1 0, o2.2))) (cwV 0 hts (gT_V q_6_214 q_6_215 q_6_216 q_1_12 q_6_217) rfl rfl rfl hdX12_thrown ⟨(Nat.le_of_ble_eq_true rfl), (Nat.le_of_ble_eq_true rfl)⟩) 0 10 (aM_0 _ _) rfl rfl hl.1 rfl (Nat.le_of_ble_eq_true rfl) dL_692 ⟨by show cells + 1 + 0 ≤ 601024; omega, by show slots + 6 + 0 ≤ 7293000; omega⟩ rfl rfl (fun H locs hW => ?_)
    have hW := toX hW
    refine lv_iload hx hb dL_695 (lv_at hl 1 rfl) ?_
    refine lv_icmp_eq (tgt := 702) hx hb dL_697 (by decide) (fun c697 => ?_) (fun c697 => absurd (e2) c697)
    refine lv_iload hx hb dL_702 (lv_at hl 1 rfl) ?_
    refine lv_if_ne (tgt := 726) hx hb dL_704 (by decide) (fun c704 => ?_) (fun c704 => absurd c704 ((by decide)))
    refine lv_goto (tgt := 1133) hx hb dL_726 (by decide) ?_
    exact W.widen (k := cells + 5) (n := slots + 25) (by omega) (by omega) (nxt _ _ ((if o1.1 = 0 then vp_updL v 0 (if o1.2.1 = 0 then (0 : Int64) else 1) else v)) H locs ls hI (lv_sub hl [2, 3, 4, 5, 6] rfl) hW)
set_option maxHeartbeats 4000000 in
set_option maxRecDepth 100000 in
theorem lc_make {p : Program} {l : Launch} {e : Env} {s : State} {m : MethodId} {below : List Frame} {meth : Method} {c : Code} {b L : Nat} {xs : Nat → Int32} {J : LJ} {Inv : XS → XS → Prop} (F : fx_ p s m #[Value.ref b] meth c code 8 ret "InodeDeskLaw" (Cond.initialized "InodeDeskLaw" :: gT)) (hl9 : l.stackTraces = false) (hZ : xz_ (fun q : Nat => s.heap.size ≤ q) s) (hN : xn_ s) (hX : va_X b L xs s s.heap) (hbl : b < s.heap.size) (St : St_all (jn J) Inv) {x4 : Int32} {cells slots : Nat} (hcc : cells + 5 ≤ 601024) (hss : slots + 25 ≤ 7293000) (hin : ∀ k : Int32, 0 ≤ k → k < 6 → vp_in (x4 + k) L) (nxt : lw_next p l e s m below meth c b J Inv x4 cells slots) (σ τ : XS) (v : Nat → Int64) (hI : Inv σ τ) (H : Heap) (locs : List Loc) (ls : Array Slot) (hl : lv_has ls 8 [(0, .ref b), (1, .ref (ka (jX J) 0)), (2, .ref (ka (jM J) 0)), (3, .ref (jq J)), (4, .int x4)]) (hW : gw_ (kD (KC J τ v)) vwCl (tyX (KC J τ v)) (wX (KC J τ v)) (fun q : Nat => s.heap.size ≤ q) s σ H locs) : W p l e room_1 s m #[Value.ref b] below meth c H locs cells slots (lw_Z below #[Value.ref b] s) (F0 m 729 ls []) := by
  have hx := F.1
  have hb := F.2.1
  have hml := F.2.2.2.1
  have hown := F.2.2.2.2.1
  have hts := F.2.2.2.2.2.1
  have hG : ∀ x ∈ gT, x.before _ s = true := fun x h => hts x (List.mem_cons_of_mem _ h)
  have hbA : ¬ (fun q : Nat => s.heap.size ≤ q) b := Nat.not_le.mpr hbl
  rcases Decidable.em ((xs (x4 + (1 : Int32)).toNatClampNeg) = 0) with z | z
  · obtain ⟨o1, o2, h1, h2, hI, hc⟩ := (St.2.2.2.2.2.2.2.2.2.2.2.2.1) σ τ (0 : Int32) (Or.inl rfl) hI
    rcases hc with ⟨e1, e2, e3⟩ | ⟨e1, e2⟩ | ⟨e1, e2⟩ | ⟨e1, e2⟩
    · refine lv_aload_n hx hb dL_729 rfl (lv_at hl 1 rfl) ?_
      refine lv_aload_n hx hb dL_730 rfl (lv_at hl 0 rfl) ?_
      refine lv_iload hx hb dL_731 (lv_at hl 4 rfl) ?_
      refine lv_iconst (v := (1 : Int32)) hx hb dL_733 (by decide) ?_
      refine lv_iadd hx hb dL_734 ?_
      refine va_sld hx hb hX hbl hbA hW.2.2.2.1 (hin (1 : Int32) (by decide) (by decide)) dL_735 ?_
      refine lv_if_eq (tgt := 743) hx hb dL_736 (by decide) (fun c736 => ?_) (fun c736 => absurd (z) c736)
      refine lv_iconst (v := (0 : Int32)) hx hb dL_743 (by decide) ?_
      refine lv_aload_n hx hb dL_744 rfl (lv_at hl 3 rfl) ?_
      have hWo := gX_H (v0 := v) hW
      refine gh_S (As := [.ref (ka (jX J) 0), .int (0 : Int32), .ref (jq J)]) (mc' := cells + 2) (ms' := slots + 12) F hZ hN hWo (hL_make hl9 h1 (Or.inl ⟨e1, rfl⟩)) (gT_I q_5_164) rfl (hG _ q_5_162) (hG _ q_5_163) (hG _ q_1_0) hdX10_make.2 ⟨(Nat.le_of_ble_eq_true rfl), (Nat.le_of_ble_eq_true rfl)⟩ rfl hl.1 rfl (Nat.le_of_ble_eq_true rfl) dL_745 ⟨by show cells + 2 ≤ 601024; omega, by show slots + 12 ≤ 7293000; omega⟩ rfl rfl (fun H locs hW => ?_)
      have hW := gH_X (J := J) (τ := τ) (v := (if o1.1 = 0 then vp_updL v 0 o1.2.1.toInt64 else v)) hW
      refine lv_istore (lv' := [(5, .int (0 : Int32)), (0, .ref b), (1, .ref (ka (jX J) 0)), (2, .ref (ka (jM J) 0)), (3, .ref (jq J)), (4, .int x4)]) hx hb dL_748 hl (by decide) rfl (fun ls hl => ?_)
      refine lv_aload_n hx hb dL_750 rfl (lv_at hl 3 rfl) ?_
      refine lv_aload_n hx hb dL_751 rfl (lv_at hl 1 rfl) ?_
      refine lv_iload hx hb dL_752 (lv_at hl 5 rfl) ?_
      refine lv_iconst (v := (1 : Int32)) hx hb dL_754 (by decide) ?_
      refine lv_iadd hx hb dL_755 ?_
      refine va_sld hx hb hX hbl hbA hW.2.2.2.1 (hin (1 : Int32) (by decide) (by decide)) dL_756 ?_
      refine lv_if_eq (tgt := 764) hx hb dL_757 (by decide) (fun c757 => ?_) (fun c757 => absurd (z) c757)
      refine lv_iconst (v := (0 : Int32)) hx hb dL_764 (by decide) ?_
      have hW := toM hW
      refine gw_Vi (As := [.int (0 : Int32)]) (mc' := cells + 2) (ms' := slots + 12) F hW (mMX12_make_0 h2) (cwV 1 hts (gT_V q_7_140 q_7_141 q_7_142 q_1_12 q_7_143) rfl rfl rfl hdX12_make ⟨(Nat.le_of_ble_eq_true rfl), (Nat.le_of_ble_eq_true rfl)⟩) 0 10 (aM_0 _ _) rfl rfl hl.1 rfl (Nat.le_of_ble_eq_true rfl) dL_765 ⟨by show cells + 2 + 0 ≤ 601024; omega, by show slots + 12 + 0 ≤ 7293000; omega⟩ rfl rfl (fun H locs hW => ?_)
      have hW := toX hW
      refine lv_istore (lv' := [(6, .int o2.1), (5, .int (0 : Int32)), (0, .ref b), (1, .ref (ka (jX J) 0)), (2, .ref (ka (jM J) 0)), (3, .ref (jq J)), (4, .int x4)]) hx hb dL_768 hl (by decide) rfl (fun ls hl => ?_)
      refine lv_aload_n hx hb dL_770 rfl (lv_at hl 4 rfl) ?_
      have hW := toM hW
      refine gw_Vi (As := []) (mc' := cells + 2) (ms' := slots + 12) F hW (mMX12_thrown_0 (rfl : fMX12_thrown_0 (jn J) o2.2 = some (o2.2.1 0, o2.2))) (cwV 0 hts (gT_V q_6_214 q_6_215 q_6_216 q_1_12 q_6_217) rfl rfl rfl hdX12_thrown ⟨(Nat.le_of_ble_eq_true rfl), (Nat.le_of_ble_eq_true rfl)⟩) 0 10 (aM_0 _ _) rfl rfl hl.1 rfl (Nat.le_of_ble_eq_true rfl) dL_771 ⟨by show cells + 2 + 0 ≤ 601024; omega, by show slots + 12 + 0 ≤ 7293000; omega⟩ rfl rfl (fun H locs hW => ?_)
      have hW := toX hW
      refine lv_iload hx hb dL_774 (lv_at hl 1 rfl) ?_
      refine lv_icmp_eq (tgt := 781) hx hb dL_776 (by decide) (fun c776 => ?_) (fun c776 => absurd (e2) c776)
      refine lv_iload hx hb dL_781 (lv_at hl 1 rfl) ?_
      refine lv_if_ne (tgt := 798) hx hb dL_783 (by decide) (fun c783 => absurd (rfl) c783) (fun c783 => ?_)
      refine lv_aload_n hx hb dL_786 rfl (lv_at hl 5 rfl) ?_
      refine lv_iconst (v := (0 : Int32)) hx hb dL_787 (by decide) ?_
      have hWo := gX_H (v0 := (if o1.1 = 0 then vp_updL v 0 o1.2.1.toInt64 else v)) hW
      refine gw_lald F hWo 19 8 (aH_o _ _ _) rfl (by decide) dL_788 ?_
      refine lv_iload hx hb dL_789 (lv_at hl 0 rfl) ?_
      refine lv_i2l (v := o2.1.toInt64) hx hb dL_791 rfl ?_
      refine W.lcmp hx hb dL_792 ?_
      refine lv_if_eq (tgt := 798) hx hb dL_793 (by decide) (fun c793 => ?_) (fun c793 => absurd (law_eq e1 (congrArg Int32.toInt64 e3)) c793)
      refine lv_goto (tgt := 1133) hx hb dL_798 (by decide) ?_
      exact W.widen (k := cells + 5) (n := slots + 25) (by omega) (by omega) (nxt _ _ ((if o1.1 = 0 then vp_updL v 0 o1.2.1.toInt64 else v)) H locs ls hI (lv_sub hl [2, 3, 4, 5, 6] rfl) hW)
    · refine lv_aload_n hx hb dL_729 rfl (lv_at hl 1 rfl) ?_
      refine lv_aload_n hx hb dL_730 rfl (lv_at hl 0 rfl) ?_
      refine lv_iload hx hb dL_731 (lv_at hl 4 rfl) ?_
      refine lv_iconst (v := (1 : Int32)) hx hb dL_733 (by decide) ?_
      refine lv_iadd hx hb dL_734 ?_
      refine va_sld hx hb hX hbl hbA hW.2.2.2.1 (hin (1 : Int32) (by decide) (by decide)) dL_735 ?_
      refine lv_if_eq (tgt := 743) hx hb dL_736 (by decide) (fun c736 => ?_) (fun c736 => absurd (z) c736)
      refine lv_iconst (v := (0 : Int32)) hx hb dL_743 (by decide) ?_
      refine lv_aload_n hx hb dL_744 rfl (lv_at hl 3 rfl) ?_
      have hWo := gX_H (v0 := v) hW
      refine gh_S (As := [.ref (ka (jX J) 0), .int (0 : Int32), .ref (jq J)]) (mc' := cells + 2) (ms' := slots + 12) F hZ hN hWo (hL_make hl9 h1 (Or.inr (Or.inl ⟨e1, rfl⟩))) (gT_I q_5_164) rfl (hG _ q_5_162) (hG _ q_5_163) (hG _ q_1_0) hdX10_make.2 ⟨(Nat.le_of_ble_eq_true rfl), (Nat.le_of_ble_eq_true rfl)⟩ rfl hl.1 rfl (Nat.le_of_ble_eq_true rfl) dL_745 ⟨by show cells + 2 ≤ 601024; omega, by show slots + 12 ≤ 7293000; omega⟩ rfl rfl (fun H locs hW => ?_)
      have hW := gH_X (J := J) (τ := τ) (v := (if o1.1 = 0 then vp_updL v 0 o1.2.1.toInt64 else v)) hW
      refine lv_istore (lv' := [(5, .int (1 : Int32)), (0, .ref b), (1, .ref (ka (jX J) 0)), (2, .ref (ka (jM J) 0)), (3, .ref (jq J)), (4, .int x4)]) hx hb dL_748 hl (by decide) rfl (fun ls hl => ?_)
      refine lv_aload_n hx hb dL_750 rfl (lv_at hl 3 rfl) ?_
      refine lv_aload_n hx hb dL_751 rfl (lv_at hl 1 rfl) ?_
      refine lv_iload hx hb dL_752 (lv_at hl 5 rfl) ?_
      refine lv_iconst (v := (1 : Int32)) hx hb dL_754 (by decide) ?_
      refine lv_iadd hx hb dL_755 ?_
      refine va_sld hx hb hX hbl hbA hW.2.2.2.1 (hin (1 : Int32) (by decide) (by decide)) dL_756 ?_
      refine lv_if_eq (tgt := 764) hx hb dL_757 (by decide) (fun c757 => ?_) (fun c757 => absurd (z) c757)
      refine lv_iconst (v := (0 : Int32)) hx hb dL_764 (by decide) ?_
      have hW := toM hW
      refine gw_Vi (As := [.int (0 : Int32)]) (mc' := cells + 2) (ms' := slots + 12) F hW (mMX12_make_0 h2) (cwV 1 hts (gT_V q_7_140 q_7_141 q_7_142 q_1_12 q_7_143) rfl rfl rfl hdX12_make ⟨(Nat.le_of_ble_eq_true rfl), (Nat.le_of_ble_eq_true rfl)⟩) 0 10 (aM_0 _ _) rfl rfl hl.1 rfl (Nat.le_of_ble_eq_true rfl) dL_765 ⟨by show cells + 2 + 0 ≤ 601024; omega, by show slots + 12 + 0 ≤ 7293000; omega⟩ rfl rfl (fun H locs hW => ?_)
      have hW := toX hW
      refine lv_istore (lv' := [(6, .int o2.1), (5, .int (1 : Int32)), (0, .ref b), (1, .ref (ka (jX J) 0)), (2, .ref (ka (jM J) 0)), (3, .ref (jq J)), (4, .int x4)]) hx hb dL_768 hl (by decide) rfl (fun ls hl => ?_)
      refine lv_aload_n hx hb dL_770 rfl (lv_at hl 4 rfl) ?_
      have hW := toM hW
      refine gw_Vi (As := []) (mc' := cells + 2) (ms' := slots + 12) F hW (mMX12_thrown_0 (rfl : fMX12_thrown_0 (jn J) o2.2 = some (o2.2.1 0, o2.2))) (cwV 0 hts (gT_V q_6_214 q_6_215 q_6_216 q_1_12 q_6_217) rfl rfl rfl hdX12_thrown ⟨(Nat.le_of_ble_eq_true rfl), (Nat.le_of_ble_eq_true rfl)⟩) 0 10 (aM_0 _ _) rfl rfl hl.1 rfl (Nat.le_of_ble_eq_true rfl) dL_771 ⟨by show cells + 2 + 0 ≤ 601024; omega, by show slots + 12 + 0 ≤ 7293000; omega⟩ rfl rfl (fun H locs hW => ?_)
      have hW := toX hW
      refine lv_iload hx hb dL_774 (lv_at hl 1 rfl) ?_
      refine lv_icmp_eq (tgt := 781) hx hb dL_776 (by decide) (fun c776 => ?_) (fun c776 => absurd (e2) c776)
      refine lv_iload hx hb dL_781 (lv_at hl 1 rfl) ?_
      refine lv_if_ne (tgt := 798) hx hb dL_783 (by decide) (fun c783 => ?_) (fun c783 => absurd c783 ((by decide)))
      refine lv_goto (tgt := 1133) hx hb dL_798 (by decide) ?_
      exact W.widen (k := cells + 5) (n := slots + 25) (by omega) (by omega) (nxt _ _ ((if o1.1 = 0 then vp_updL v 0 o1.2.1.toInt64 else v)) H locs ls hI (lv_sub hl [2, 3, 4, 5, 6] rfl) hW)
    · refine lv_aload_n hx hb dL_729 rfl (lv_at hl 1 rfl) ?_
      refine lv_aload_n hx hb dL_730 rfl (lv_at hl 0 rfl) ?_
      refine lv_iload hx hb dL_731 (lv_at hl 4 rfl) ?_
      refine lv_iconst (v := (1 : Int32)) hx hb dL_733 (by decide) ?_
      refine lv_iadd hx hb dL_734 ?_
      refine va_sld hx hb hX hbl hbA hW.2.2.2.1 (hin (1 : Int32) (by decide) (by decide)) dL_735 ?_
      refine lv_if_eq (tgt := 743) hx hb dL_736 (by decide) (fun c736 => ?_) (fun c736 => absurd (z) c736)
      refine lv_iconst (v := (0 : Int32)) hx hb dL_743 (by decide) ?_
      refine lv_aload_n hx hb dL_744 rfl (lv_at hl 3 rfl) ?_
      have hWo := gX_H (v0 := v) hW
      refine gh_S (As := [.ref (ka (jX J) 0), .int (0 : Int32), .ref (jq J)]) (mc' := cells + 2) (ms' := slots + 12) F hZ hN hWo (hL_make hl9 h1 (Or.inr (Or.inr (Or.inl ⟨e1, rfl⟩)))) (gT_I q_5_164) rfl (hG _ q_5_162) (hG _ q_5_163) (hG _ q_1_0) hdX10_make.2 ⟨(Nat.le_of_ble_eq_true rfl), (Nat.le_of_ble_eq_true rfl)⟩ rfl hl.1 rfl (Nat.le_of_ble_eq_true rfl) dL_745 ⟨by show cells + 2 ≤ 601024; omega, by show slots + 12 ≤ 7293000; omega⟩ rfl rfl (fun H locs hW => ?_)
      have hW := gH_X (J := J) (τ := τ) (v := (if o1.1 = 0 then vp_updL v 0 o1.2.1.toInt64 else v)) hW
      refine lv_istore (lv' := [(5, .int (2 : Int32)), (0, .ref b), (1, .ref (ka (jX J) 0)), (2, .ref (ka (jM J) 0)), (3, .ref (jq J)), (4, .int x4)]) hx hb dL_748 hl (by decide) rfl (fun ls hl => ?_)
      refine lv_aload_n hx hb dL_750 rfl (lv_at hl 3 rfl) ?_
      refine lv_aload_n hx hb dL_751 rfl (lv_at hl 1 rfl) ?_
      refine lv_iload hx hb dL_752 (lv_at hl 5 rfl) ?_
      refine lv_iconst (v := (1 : Int32)) hx hb dL_754 (by decide) ?_
      refine lv_iadd hx hb dL_755 ?_
      refine va_sld hx hb hX hbl hbA hW.2.2.2.1 (hin (1 : Int32) (by decide) (by decide)) dL_756 ?_
      refine lv_if_eq (tgt := 764) hx hb dL_757 (by decide) (fun c757 => ?_) (fun c757 => absurd (z) c757)
      refine lv_iconst (v := (0 : Int32)) hx hb dL_764 (by decide) ?_
      have hW := toM hW
      refine gw_Vi (As := [.int (0 : Int32)]) (mc' := cells + 2) (ms' := slots + 12) F hW (mMX12_make_0 h2) (cwV 1 hts (gT_V q_7_140 q_7_141 q_7_142 q_1_12 q_7_143) rfl rfl rfl hdX12_make ⟨(Nat.le_of_ble_eq_true rfl), (Nat.le_of_ble_eq_true rfl)⟩) 0 10 (aM_0 _ _) rfl rfl hl.1 rfl (Nat.le_of_ble_eq_true rfl) dL_765 ⟨by show cells + 2 + 0 ≤ 601024; omega, by show slots + 12 + 0 ≤ 7293000; omega⟩ rfl rfl (fun H locs hW => ?_)
      have hW := toX hW
      refine lv_istore (lv' := [(6, .int o2.1), (5, .int (2 : Int32)), (0, .ref b), (1, .ref (ka (jX J) 0)), (2, .ref (ka (jM J) 0)), (3, .ref (jq J)), (4, .int x4)]) hx hb dL_768 hl (by decide) rfl (fun ls hl => ?_)
      refine lv_aload_n hx hb dL_770 rfl (lv_at hl 4 rfl) ?_
      have hW := toM hW
      refine gw_Vi (As := []) (mc' := cells + 2) (ms' := slots + 12) F hW (mMX12_thrown_0 (rfl : fMX12_thrown_0 (jn J) o2.2 = some (o2.2.1 0, o2.2))) (cwV 0 hts (gT_V q_6_214 q_6_215 q_6_216 q_1_12 q_6_217) rfl rfl rfl hdX12_thrown ⟨(Nat.le_of_ble_eq_true rfl), (Nat.le_of_ble_eq_true rfl)⟩) 0 10 (aM_0 _ _) rfl rfl hl.1 rfl (Nat.le_of_ble_eq_true rfl) dL_771 ⟨by show cells + 2 + 0 ≤ 601024; omega, by show slots + 12 + 0 ≤ 7293000; omega⟩ rfl rfl (fun H locs hW => ?_)
      have hW := toX hW
      refine lv_iload hx hb dL_774 (lv_at hl 1 rfl) ?_
      refine lv_icmp_eq (tgt := 781) hx hb dL_776 (by decide) (fun c776 => ?_) (fun c776 => absurd (e2) c776)
      refine lv_iload hx hb dL_781 (lv_at hl 1 rfl) ?_
      refine lv_if_ne (tgt := 798) hx hb dL_783 (by decide) (fun c783 => ?_) (fun c783 => absurd c783 ((by decide)))
      refine lv_goto (tgt := 1133) hx hb dL_798 (by decide) ?_
      exact W.widen (k := cells + 5) (n := slots + 25) (by omega) (by omega) (nxt _ _ ((if o1.1 = 0 then vp_updL v 0 o1.2.1.toInt64 else v)) H locs ls hI (lv_sub hl [2, 3, 4, 5, 6] rfl) hW)
    · refine lv_aload_n hx hb dL_729 rfl (lv_at hl 1 rfl) ?_
      refine lv_aload_n hx hb dL_730 rfl (lv_at hl 0 rfl) ?_
      refine lv_iload hx hb dL_731 (lv_at hl 4 rfl) ?_
      refine lv_iconst (v := (1 : Int32)) hx hb dL_733 (by decide) ?_
      refine lv_iadd hx hb dL_734 ?_
      refine va_sld hx hb hX hbl hbA hW.2.2.2.1 (hin (1 : Int32) (by decide) (by decide)) dL_735 ?_
      refine lv_if_eq (tgt := 743) hx hb dL_736 (by decide) (fun c736 => ?_) (fun c736 => absurd (z) c736)
      refine lv_iconst (v := (0 : Int32)) hx hb dL_743 (by decide) ?_
      refine lv_aload_n hx hb dL_744 rfl (lv_at hl 3 rfl) ?_
      have hWo := gX_H (v0 := v) hW
      refine gh_S (As := [.ref (ka (jX J) 0), .int (0 : Int32), .ref (jq J)]) (mc' := cells + 2) (ms' := slots + 12) F hZ hN hWo (hL_make hl9 h1 (Or.inr (Or.inr (Or.inr (⟨e1, rfl⟩))))) (gT_I q_5_164) rfl (hG _ q_5_162) (hG _ q_5_163) (hG _ q_1_0) hdX10_make.2 ⟨(Nat.le_of_ble_eq_true rfl), (Nat.le_of_ble_eq_true rfl)⟩ rfl hl.1 rfl (Nat.le_of_ble_eq_true rfl) dL_745 ⟨by show cells + 2 ≤ 601024; omega, by show slots + 12 ≤ 7293000; omega⟩ rfl rfl (fun H locs hW => ?_)
      have hW := gH_X (J := J) (τ := τ) (v := (if o1.1 = 0 then vp_updL v 0 o1.2.1.toInt64 else v)) hW
      refine lv_istore (lv' := [(5, .int (3 : Int32)), (0, .ref b), (1, .ref (ka (jX J) 0)), (2, .ref (ka (jM J) 0)), (3, .ref (jq J)), (4, .int x4)]) hx hb dL_748 hl (by decide) rfl (fun ls hl => ?_)
      refine lv_aload_n hx hb dL_750 rfl (lv_at hl 3 rfl) ?_
      refine lv_aload_n hx hb dL_751 rfl (lv_at hl 1 rfl) ?_
      refine lv_iload hx hb dL_752 (lv_at hl 5 rfl) ?_
      refine lv_iconst (v := (1 : Int32)) hx hb dL_754 (by decide) ?_
      refine lv_iadd hx hb dL_755 ?_
      refine va_sld hx hb hX hbl hbA hW.2.2.2.1 (hin (1 : Int32) (by decide) (by decide)) dL_756 ?_
      refine lv_if_eq (tgt := 764) hx hb dL_757 (by decide) (fun c757 => ?_) (fun c757 => absurd (z) c757)
      refine lv_iconst (v := (0 : Int32)) hx hb dL_764 (by decide) ?_
      have hW := toM hW
      refine gw_Vi (As := [.int (0 : Int32)]) (mc' := cells + 2) (ms' := slots + 12) F hW (mMX12_make_0 h2) (cwV 1 hts (gT_V q_7_140 q_7_141 q_7_142 q_1_12 q_7_143) rfl rfl rfl hdX12_make ⟨(Nat.le_of_ble_eq_true rfl), (Nat.le_of_ble_eq_true rfl)⟩) 0 10 (aM_0 _ _) rfl rfl hl.1 rfl (Nat.le_of_ble_eq_true rfl) dL_765 ⟨by show cells + 2 + 0 ≤ 601024; omega, by show slots + 12 + 0 ≤ 7293000; omega⟩ rfl rfl (fun H locs hW => ?_)
      have hW := toX hW
      refine lv_istore (lv' := [(6, .int o2.1), (5, .int (3 : Int32)), (0, .ref b), (1, .ref (ka (jX J) 0)), (2, .ref (ka (jM J) 0)), (3, .ref (jq J)), (4, .int x4)]) hx hb dL_768 hl (by decide) rfl (fun ls hl => ?_)
      refine lv_aload_n hx hb dL_770 rfl (lv_at hl 4 rfl) ?_
      have hW := toM hW
      refine gw_Vi (As := []) (mc' := cells + 2) (ms' := slots + 12) F hW (mMX12_thrown_0 (rfl : fMX12_thrown_0 (jn J) o2.2 = some (o2.2.1 0, o2.2))) (cwV 0 hts (gT_V q_6_214 q_6_215 q_6_216 q_1_12 q_6_217) rfl rfl rfl hdX12_thrown ⟨(Nat.le_of_ble_eq_true rfl), (Nat.le_of_ble_eq_true rfl)⟩) 0 10 (aM_0 _ _) rfl rfl hl.1 rfl (Nat.le_of_ble_eq_true rfl) dL_771 ⟨by show cells + 2 + 0 ≤ 601024; omega, by show slots + 12 + 0 ≤ 7293000; omega⟩ rfl rfl (fun H locs hW => ?_)
      have hW := toX hW
      refine lv_iload hx hb dL_774 (lv_at hl 1 rfl) ?_
      refine lv_icmp_eq (tgt := 781) hx hb dL_776 (by decide) (fun c776 => ?_) (fun c776 => absurd (e2) c776)
      refine lv_iload hx hb dL_781 (lv_at hl 1 rfl) ?_
      refine lv_if_ne (tgt := 798) hx hb dL_783 (by decide) (fun c783 => ?_) (fun c783 => absurd c783 ((by decide)))
      refine lv_goto (tgt := 1133) hx hb dL_798 (by decide) ?_
      exact W.widen (k := cells + 5) (n := slots + 25) (by omega) (by omega) (nxt _ _ ((if o1.1 = 0 then vp_updL v 0 o1.2.1.toInt64 else v)) H locs ls hI (lv_sub hl [2, 3, 4, 5, 6] rfl) hW)
  · obtain ⟨o1, o2, h1, h2, hI, hc⟩ := (St.2.2.2.2.2.2.2.2.2.2.2.2.1) σ τ (1 : Int32) (Or.inr rfl) hI
    rcases hc with ⟨e1, e2, e3⟩ | ⟨e1, e2⟩ | ⟨e1, e2⟩ | ⟨e1, e2⟩
    · refine lv_aload_n hx hb dL_729 rfl (lv_at hl 1 rfl) ?_
      refine lv_aload_n hx hb dL_730 rfl (lv_at hl 0 rfl) ?_
      refine lv_iload hx hb dL_731 (lv_at hl 4 rfl) ?_
      refine lv_iconst (v := (1 : Int32)) hx hb dL_733 (by decide) ?_
      refine lv_iadd hx hb dL_734 ?_
      refine va_sld hx hb hX hbl hbA hW.2.2.2.1 (hin (1 : Int32) (by decide) (by decide)) dL_735 ?_
      refine lv_if_eq (tgt := 743) hx hb dL_736 (by decide) (fun c736 => absurd c736 (z)) (fun c736 => ?_)
      refine lv_iconst (v := (1 : Int32)) hx hb dL_739 (by decide) ?_
      refine lv_goto (tgt := 744) hx hb dL_740 (by decide) ?_
      refine lv_aload_n hx hb dL_744 rfl (lv_at hl 3 rfl) ?_
      have hWo := gX_H (v0 := v) hW
      refine gh_S (As := [.ref (ka (jX J) 0), .int (1 : Int32), .ref (jq J)]) (mc' := cells + 2) (ms' := slots + 12) F hZ hN hWo (hL_make hl9 h1 (Or.inl ⟨e1, rfl⟩)) (gT_I q_5_164) rfl (hG _ q_5_162) (hG _ q_5_163) (hG _ q_1_0) hdX10_make.2 ⟨(Nat.le_of_ble_eq_true rfl), (Nat.le_of_ble_eq_true rfl)⟩ rfl hl.1 rfl (Nat.le_of_ble_eq_true rfl) dL_745 ⟨by show cells + 2 ≤ 601024; omega, by show slots + 12 ≤ 7293000; omega⟩ rfl rfl (fun H locs hW => ?_)
      have hW := gH_X (J := J) (τ := τ) (v := (if o1.1 = 0 then vp_updL v 0 o1.2.1.toInt64 else v)) hW
      refine lv_istore (lv' := [(5, .int (0 : Int32)), (0, .ref b), (1, .ref (ka (jX J) 0)), (2, .ref (ka (jM J) 0)), (3, .ref (jq J)), (4, .int x4)]) hx hb dL_748 hl (by decide) rfl (fun ls hl => ?_)
      refine lv_aload_n hx hb dL_750 rfl (lv_at hl 3 rfl) ?_
      refine lv_aload_n hx hb dL_751 rfl (lv_at hl 1 rfl) ?_
      refine lv_iload hx hb dL_752 (lv_at hl 5 rfl) ?_
      refine lv_iconst (v := (1 : Int32)) hx hb dL_754 (by decide) ?_
      refine lv_iadd hx hb dL_755 ?_
      refine va_sld hx hb hX hbl hbA hW.2.2.2.1 (hin (1 : Int32) (by decide) (by decide)) dL_756 ?_
      refine lv_if_eq (tgt := 764) hx hb dL_757 (by decide) (fun c757 => absurd c757 (z)) (fun c757 => ?_)
      refine lv_iconst (v := (1 : Int32)) hx hb dL_760 (by decide) ?_
      refine lv_goto (tgt := 765) hx hb dL_761 (by decide) ?_
      have hW := toM hW
      refine gw_Vi (As := [.int (1 : Int32)]) (mc' := cells + 2) (ms' := slots + 12) F hW (mMX12_make_0 h2) (cwV 1 hts (gT_V q_7_140 q_7_141 q_7_142 q_1_12 q_7_143) rfl rfl rfl hdX12_make ⟨(Nat.le_of_ble_eq_true rfl), (Nat.le_of_ble_eq_true rfl)⟩) 0 10 (aM_0 _ _) rfl rfl hl.1 rfl (Nat.le_of_ble_eq_true rfl) dL_765 ⟨by show cells + 2 + 0 ≤ 601024; omega, by show slots + 12 + 0 ≤ 7293000; omega⟩ rfl rfl (fun H locs hW => ?_)
      have hW := toX hW
      refine lv_istore (lv' := [(6, .int o2.1), (5, .int (0 : Int32)), (0, .ref b), (1, .ref (ka (jX J) 0)), (2, .ref (ka (jM J) 0)), (3, .ref (jq J)), (4, .int x4)]) hx hb dL_768 hl (by decide) rfl (fun ls hl => ?_)
      refine lv_aload_n hx hb dL_770 rfl (lv_at hl 4 rfl) ?_
      have hW := toM hW
      refine gw_Vi (As := []) (mc' := cells + 2) (ms' := slots + 12) F hW (mMX12_thrown_0 (rfl : fMX12_thrown_0 (jn J) o2.2 = some (o2.2.1 0, o2.2))) (cwV 0 hts (gT_V q_6_214 q_6_215 q_6_216 q_1_12 q_6_217) rfl rfl rfl hdX12_thrown ⟨(Nat.le_of_ble_eq_true rfl), (Nat.le_of_ble_eq_true rfl)⟩) 0 10 (aM_0 _ _) rfl rfl hl.1 rfl (Nat.le_of_ble_eq_true rfl) dL_771 ⟨by show cells + 2 + 0 ≤ 601024; omega, by show slots + 12 + 0 ≤ 7293000; omega⟩ rfl rfl (fun H locs hW => ?_)
      have hW := toX hW
      refine lv_iload hx hb dL_774 (lv_at hl 1 rfl) ?_
      refine lv_icmp_eq (tgt := 781) hx hb dL_776 (by decide) (fun c776 => ?_) (fun c776 => absurd (e2) c776)
      refine lv_iload hx hb dL_781 (lv_at hl 1 rfl) ?_
      refine lv_if_ne (tgt := 798) hx hb dL_783 (by decide) (fun c783 => absurd (rfl) c783) (fun c783 => ?_)
      refine lv_aload_n hx hb dL_786 rfl (lv_at hl 5 rfl) ?_
      refine lv_iconst (v := (0 : Int32)) hx hb dL_787 (by decide) ?_
      have hWo := gX_H (v0 := (if o1.1 = 0 then vp_updL v 0 o1.2.1.toInt64 else v)) hW
      refine gw_lald F hWo 19 8 (aH_o _ _ _) rfl (by decide) dL_788 ?_
      refine lv_iload hx hb dL_789 (lv_at hl 0 rfl) ?_
      refine lv_i2l (v := o2.1.toInt64) hx hb dL_791 rfl ?_
      refine W.lcmp hx hb dL_792 ?_
      refine lv_if_eq (tgt := 798) hx hb dL_793 (by decide) (fun c793 => ?_) (fun c793 => absurd (law_eq e1 (congrArg Int32.toInt64 e3)) c793)
      refine lv_goto (tgt := 1133) hx hb dL_798 (by decide) ?_
      exact W.widen (k := cells + 5) (n := slots + 25) (by omega) (by omega) (nxt _ _ ((if o1.1 = 0 then vp_updL v 0 o1.2.1.toInt64 else v)) H locs ls hI (lv_sub hl [2, 3, 4, 5, 6] rfl) hW)
    · refine lv_aload_n hx hb dL_729 rfl (lv_at hl 1 rfl) ?_
      refine lv_aload_n hx hb dL_730 rfl (lv_at hl 0 rfl) ?_
      refine lv_iload hx hb dL_731 (lv_at hl 4 rfl) ?_
      refine lv_iconst (v := (1 : Int32)) hx hb dL_733 (by decide) ?_
      refine lv_iadd hx hb dL_734 ?_
      refine va_sld hx hb hX hbl hbA hW.2.2.2.1 (hin (1 : Int32) (by decide) (by decide)) dL_735 ?_
      refine lv_if_eq (tgt := 743) hx hb dL_736 (by decide) (fun c736 => absurd c736 (z)) (fun c736 => ?_)
      refine lv_iconst (v := (1 : Int32)) hx hb dL_739 (by decide) ?_
      refine lv_goto (tgt := 744) hx hb dL_740 (by decide) ?_
      refine lv_aload_n hx hb dL_744 rfl (lv_at hl 3 rfl) ?_
      have hWo := gX_H (v0 := v) hW
      refine gh_S (As := [.ref (ka (jX J) 0), .int (1 : Int32), .ref (jq J)]) (mc' := cells + 2) (ms' := slots + 12) F hZ hN hWo (hL_make hl9 h1 (Or.inr (Or.inl ⟨e1, rfl⟩))) (gT_I q_5_164) rfl (hG _ q_5_162) (hG _ q_5_163) (hG _ q_1_0) hdX10_make.2 ⟨(Nat.le_of_ble_eq_true rfl), (Nat.le_of_ble_eq_true rfl)⟩ rfl hl.1 rfl (Nat.le_of_ble_eq_true rfl) dL_745 ⟨by show cells + 2 ≤ 601024; omega, by show slots + 12 ≤ 7293000; omega⟩ rfl rfl (fun H locs hW => ?_)
      have hW := gH_X (J := J) (τ := τ) (v := (if o1.1 = 0 then vp_updL v 0 o1.2.1.toInt64 else v)) hW
      refine lv_istore (lv' := [(5, .int (1 : Int32)), (0, .ref b), (1, .ref (ka (jX J) 0)), (2, .ref (ka (jM J) 0)), (3, .ref (jq J)), (4, .int x4)]) hx hb dL_748 hl (by decide) rfl (fun ls hl => ?_)
      refine lv_aload_n hx hb dL_750 rfl (lv_at hl 3 rfl) ?_
      refine lv_aload_n hx hb dL_751 rfl (lv_at hl 1 rfl) ?_
      refine lv_iload hx hb dL_752 (lv_at hl 5 rfl) ?_
      refine lv_iconst (v := (1 : Int32)) hx hb dL_754 (by decide) ?_
      refine lv_iadd hx hb dL_755 ?_
      refine va_sld hx hb hX hbl hbA hW.2.2.2.1 (hin (1 : Int32) (by decide) (by decide)) dL_756 ?_
      refine lv_if_eq (tgt := 764) hx hb dL_757 (by decide) (fun c757 => absurd c757 (z)) (fun c757 => ?_)
      refine lv_iconst (v := (1 : Int32)) hx hb dL_760 (by decide) ?_
      refine lv_goto (tgt := 765) hx hb dL_761 (by decide) ?_
      have hW := toM hW
      refine gw_Vi (As := [.int (1 : Int32)]) (mc' := cells + 2) (ms' := slots + 12) F hW (mMX12_make_0 h2) (cwV 1 hts (gT_V q_7_140 q_7_141 q_7_142 q_1_12 q_7_143) rfl rfl rfl hdX12_make ⟨(Nat.le_of_ble_eq_true rfl), (Nat.le_of_ble_eq_true rfl)⟩) 0 10 (aM_0 _ _) rfl rfl hl.1 rfl (Nat.le_of_ble_eq_true rfl) dL_765 ⟨by show cells + 2 + 0 ≤ 601024; omega, by show slots + 12 + 0 ≤ 7293000; omega⟩ rfl rfl (fun H locs hW => ?_)
      have hW := toX hW
      refine lv_istore (lv' := [(6, .int o2.1), (5, .int (1 : Int32)), (0, .ref b), (1, .ref (ka (jX J) 0)), (2, .ref (ka (jM J) 0)), (3, .ref (jq J)), (4, .int x4)]) hx hb dL_768 hl (by decide) rfl (fun ls hl => ?_)
      refine lv_aload_n hx hb dL_770 rfl (lv_at hl 4 rfl) ?_
      have hW := toM hW
      refine gw_Vi (As := []) (mc' := cells + 2) (ms' := slots + 12) F hW (mMX12_thrown_0 (rfl : fMX12_thrown_0 (jn J) o2.2 = some (o2.2.1 0, o2.2))) (cwV 0 hts (gT_V q_6_214 q_6_215 q_6_216 q_1_12 q_6_217) rfl rfl rfl hdX12_thrown ⟨(Nat.le_of_ble_eq_true rfl), (Nat.le_of_ble_eq_true rfl)⟩) 0 10 (aM_0 _ _) rfl rfl hl.1 rfl (Nat.le_of_ble_eq_true rfl) dL_771 ⟨by show cells + 2 + 0 ≤ 601024; omega, by show slots + 12 + 0 ≤ 7293000; omega⟩ rfl rfl (fun H locs hW => ?_)
      have hW := toX hW
      refine lv_iload hx hb dL_774 (lv_at hl 1 rfl) ?_
      refine lv_icmp_eq (tgt := 781) hx hb dL_776 (by decide) (fun c776 => ?_) (fun c776 => absurd (e2) c776)
      refine lv_iload hx hb dL_781 (lv_at hl 1 rfl) ?_
      refine lv_if_ne (tgt := 798) hx hb dL_783 (by decide) (fun c783 => ?_) (fun c783 => absurd c783 ((by decide)))
      refine lv_goto (tgt := 1133) hx hb dL_798 (by decide) ?_
      exact W.widen (k := cells + 5) (n := slots + 25) (by omega) (by omega) (nxt _ _ ((if o1.1 = 0 then vp_updL v 0 o1.2.1.toInt64 else v)) H locs ls hI (lv_sub hl [2, 3, 4, 5, 6] rfl) hW)
    · refine lv_aload_n hx hb dL_729 rfl (lv_at hl 1 rfl) ?_
      refine lv_aload_n hx hb dL_730 rfl (lv_at hl 0 rfl) ?_
      refine lv_iload hx hb dL_731 (lv_at hl 4 rfl) ?_
      refine lv_iconst (v := (1 : Int32)) hx hb dL_733 (by decide) ?_
      refine lv_iadd hx hb dL_734 ?_
      refine va_sld hx hb hX hbl hbA hW.2.2.2.1 (hin (1 : Int32) (by decide) (by decide)) dL_735 ?_
      refine lv_if_eq (tgt := 743) hx hb dL_736 (by decide) (fun c736 => absurd c736 (z)) (fun c736 => ?_)
      refine lv_iconst (v := (1 : Int32)) hx hb dL_739 (by decide) ?_
      refine lv_goto (tgt := 744) hx hb dL_740 (by decide) ?_
      refine lv_aload_n hx hb dL_744 rfl (lv_at hl 3 rfl) ?_
      have hWo := gX_H (v0 := v) hW
      refine gh_S (As := [.ref (ka (jX J) 0), .int (1 : Int32), .ref (jq J)]) (mc' := cells + 2) (ms' := slots + 12) F hZ hN hWo (hL_make hl9 h1 (Or.inr (Or.inr (Or.inl ⟨e1, rfl⟩)))) (gT_I q_5_164) rfl (hG _ q_5_162) (hG _ q_5_163) (hG _ q_1_0) hdX10_make.2 ⟨(Nat.le_of_ble_eq_true rfl), (Nat.le_of_ble_eq_true rfl)⟩ rfl hl.1 rfl (Nat.le_of_ble_eq_true rfl) dL_745 ⟨by show cells + 2 ≤ 601024; omega, by show slots + 12 ≤ 7293000; omega⟩ rfl rfl (fun H locs hW => ?_)
      have hW := gH_X (J := J) (τ := τ) (v := (if o1.1 = 0 then vp_updL v 0 o1.2.1.toInt64 else v)) hW
      refine lv_istore (lv' := [(5, .int (2 : Int32)), (0, .ref b), (1, .ref (ka (jX J) 0)), (2, .ref (ka (jM J) 0)), (3, .ref (jq J)), (4, .int x4)]) hx hb dL_748 hl (by decide) rfl (fun ls hl => ?_)
      refine lv_aload_n hx hb dL_750 rfl (lv_at hl 3 rfl) ?_
      refine lv_aload_n hx hb dL_751 rfl (lv_at hl 1 rfl) ?_
      refine lv_iload hx hb dL_752 (lv_at hl 5 rfl) ?_
      refine lv_iconst (v := (1 : Int32)) hx hb dL_754 (by decide) ?_
      refine lv_iadd hx hb dL_755 ?_
      refine va_sld hx hb hX hbl hbA hW.2.2.2.1 (hin (1 : Int32) (by decide) (by decide)) dL_756 ?_
      refine lv_if_eq (tgt := 764) hx hb dL_757 (by decide) (fun c757 => absurd c757 (z)) (fun c757 => ?_)
      refine lv_iconst (v := (1 : Int32)) hx hb dL_760 (by decide) ?_
      refine lv_goto (tgt := 765) hx hb dL_761 (by decide) ?_
      have hW := toM hW
      refine gw_Vi (As := [.int (1 : Int32)]) (mc' := cells + 2) (ms' := slots + 12) F hW (mMX12_make_0 h2) (cwV 1 hts (gT_V q_7_140 q_7_141 q_7_142 q_1_12 q_7_143) rfl rfl rfl hdX12_make ⟨(Nat.le_of_ble_eq_true rfl), (Nat.le_of_ble_eq_true rfl)⟩) 0 10 (aM_0 _ _) rfl rfl hl.1 rfl (Nat.le_of_ble_eq_true rfl) dL_765 ⟨by show cells + 2 + 0 ≤ 601024; omega, by show slots + 12 + 0 ≤ 7293000; omega⟩ rfl rfl (fun H locs hW => ?_)
      have hW := toX hW
      refine lv_istore (lv' := [(6, .int o2.1), (5, .int (2 : Int32)), (0, .ref b), (1, .ref (ka (jX J) 0)), (2, .ref (ka (jM J) 0)), (3, .ref (jq J)), (4, .int x4)]) hx hb dL_768 hl (by decide) rfl (fun ls hl => ?_)
      refine lv_aload_n hx hb dL_770 rfl (lv_at hl 4 rfl) ?_
      have hW := toM hW
      refine gw_Vi (As := []) (mc' := cells + 2) (ms' := slots + 12) F hW (mMX12_thrown_0 (rfl : fMX12_thrown_0 (jn J) o2.2 = some (o2.2.1 0, o2.2))) (cwV 0 hts (gT_V q_6_214 q_6_215 q_6_216 q_1_12 q_6_217) rfl rfl rfl hdX12_thrown ⟨(Nat.le_of_ble_eq_true rfl), (Nat.le_of_ble_eq_true rfl)⟩) 0 10 (aM_0 _ _) rfl rfl hl.1 rfl (Nat.le_of_ble_eq_true rfl) dL_771 ⟨by show cells + 2 + 0 ≤ 601024; omega, by show slots + 12 + 0 ≤ 7293000; omega⟩ rfl rfl (fun H locs hW => ?_)
      have hW := toX hW
      refine lv_iload hx hb dL_774 (lv_at hl 1 rfl) ?_
      refine lv_icmp_eq (tgt := 781) hx hb dL_776 (by decide) (fun c776 => ?_) (fun c776 => absurd (e2) c776)
      refine lv_iload hx hb dL_781 (lv_at hl 1 rfl) ?_
      refine lv_if_ne (tgt := 798) hx hb dL_783 (by decide) (fun c783 => ?_) (fun c783 => absurd c783 ((by decide)))
      refine lv_goto (tgt := 1133) hx hb dL_798 (by decide) ?_
      exact W.widen (k := cells + 5) (n := slots + 25) (by omega) (by omega) (nxt _ _ ((if o1.1 = 0 then vp_updL v 0 o1.2.1.toInt64 else v)) H locs ls hI (lv_sub hl [2, 3, 4, 5, 6] rfl) hW)
    · refine lv_aload_n hx hb dL_729 rfl (lv_at hl 1 rfl) ?_
      refine lv_aload_n hx hb dL_730 rfl (lv_at hl 0 rfl) ?_
      refine lv_iload hx hb dL_731 (lv_at hl 4 rfl) ?_
      refine lv_iconst (v := (1 : Int32)) hx hb dL_733 (by decide) ?_
      refine lv_iadd hx hb dL_734 ?_
      refine va_sld hx hb hX hbl hbA hW.2.2.2.1 (hin (1 : Int32) (by decide) (by decide)) dL_735 ?_
      refine lv_if_eq (tgt := 743) hx hb dL_736 (by decide) (fun c736 => absurd c736 (z)) (fun c736 => ?_)
      refine lv_iconst (v := (1 : Int32)) hx hb dL_739 (by decide) ?_
      refine lv_goto (tgt := 744) hx hb dL_740 (by decide) ?_
      refine lv_aload_n hx hb dL_744 rfl (lv_at hl 3 rfl) ?_
      have hWo := gX_H (v0 := v) hW
      refine gh_S (As := [.ref (ka (jX J) 0), .int (1 : Int32), .ref (jq J)]) (mc' := cells + 2) (ms' := slots + 12) F hZ hN hWo (hL_make hl9 h1 (Or.inr (Or.inr (Or.inr (⟨e1, rfl⟩))))) (gT_I q_5_164) rfl (hG _ q_5_162) (hG _ q_5_163) (hG _ q_1_0) hdX10_make.2 ⟨(Nat.le_of_ble_eq_true rfl), (Nat.le_of_ble_eq_true rfl)⟩ rfl hl.1 rfl (Nat.le_of_ble_eq_true rfl) dL_745 ⟨by show cells + 2 ≤ 601024; omega, by show slots + 12 ≤ 7293000; omega⟩ rfl rfl (fun H locs hW => ?_)
      have hW := gH_X (J := J) (τ := τ) (v := (if o1.1 = 0 then vp_updL v 0 o1.2.1.toInt64 else v)) hW
      refine lv_istore (lv' := [(5, .int (3 : Int32)), (0, .ref b), (1, .ref (ka (jX J) 0)), (2, .ref (ka (jM J) 0)), (3, .ref (jq J)), (4, .int x4)]) hx hb dL_748 hl (by decide) rfl (fun ls hl => ?_)
      refine lv_aload_n hx hb dL_750 rfl (lv_at hl 3 rfl) ?_
      refine lv_aload_n hx hb dL_751 rfl (lv_at hl 1 rfl) ?_
      refine lv_iload hx hb dL_752 (lv_at hl 5 rfl) ?_
      refine lv_iconst (v := (1 : Int32)) hx hb dL_754 (by decide) ?_
      refine lv_iadd hx hb dL_755 ?_
      refine va_sld hx hb hX hbl hbA hW.2.2.2.1 (hin (1 : Int32) (by decide) (by decide)) dL_756 ?_
      refine lv_if_eq (tgt := 764) hx hb dL_757 (by decide) (fun c757 => absurd c757 (z)) (fun c757 => ?_)
      refine lv_iconst (v := (1 : Int32)) hx hb dL_760 (by decide) ?_
      refine lv_goto (tgt := 765) hx hb dL_761 (by decide) ?_
      have hW := toM hW
      refine gw_Vi (As := [.int (1 : Int32)]) (mc' := cells + 2) (ms' := slots + 12) F hW (mMX12_make_0 h2) (cwV 1 hts (gT_V q_7_140 q_7_141 q_7_142 q_1_12 q_7_143) rfl rfl rfl hdX12_make ⟨(Nat.le_of_ble_eq_true rfl), (Nat.le_of_ble_eq_true rfl)⟩) 0 10 (aM_0 _ _) rfl rfl hl.1 rfl (Nat.le_of_ble_eq_true rfl) dL_765 ⟨by show cells + 2 + 0 ≤ 601024; omega, by show slots + 12 + 0 ≤ 7293000; omega⟩ rfl rfl (fun H locs hW => ?_)
      have hW := toX hW
      refine lv_istore (lv' := [(6, .int o2.1), (5, .int (3 : Int32)), (0, .ref b), (1, .ref (ka (jX J) 0)), (2, .ref (ka (jM J) 0)), (3, .ref (jq J)), (4, .int x4)]) hx hb dL_768 hl (by decide) rfl (fun ls hl => ?_)
      refine lv_aload_n hx hb dL_770 rfl (lv_at hl 4 rfl) ?_
      have hW := toM hW
      refine gw_Vi (As := []) (mc' := cells + 2) (ms' := slots + 12) F hW (mMX12_thrown_0 (rfl : fMX12_thrown_0 (jn J) o2.2 = some (o2.2.1 0, o2.2))) (cwV 0 hts (gT_V q_6_214 q_6_215 q_6_216 q_1_12 q_6_217) rfl rfl rfl hdX12_thrown ⟨(Nat.le_of_ble_eq_true rfl), (Nat.le_of_ble_eq_true rfl)⟩) 0 10 (aM_0 _ _) rfl rfl hl.1 rfl (Nat.le_of_ble_eq_true rfl) dL_771 ⟨by show cells + 2 + 0 ≤ 601024; omega, by show slots + 12 + 0 ≤ 7293000; omega⟩ rfl rfl (fun H locs hW => ?_)
      have hW := toX hW
      refine lv_iload hx hb dL_774 (lv_at hl 1 rfl) ?_
      refine lv_icmp_eq (tgt := 781) hx hb dL_776 (by decide) (fun c776 => ?_) (fun c776 => absurd (e2) c776)
      refine lv_iload hx hb dL_781 (lv_at hl 1 rfl) ?_
      refine lv_if_ne (tgt := 798) hx hb dL_783 (by decide) (fun c783 => ?_) (fun c783 => absurd c783 ((by decide)))
      refine lv_goto (tgt := 1133) hx hb dL_798 (by decide) ?_
      exact W.widen (k := cells + 5) (n := slots + 25) (by omega) (by omega) (nxt _ _ ((if o1.1 = 0 then vp_updL v 0 o1.2.1.toInt64 else v)) H locs ls hI (lv_sub hl [2, 3, 4, 5, 6] rfl) hW)
set_option maxHeartbeats 4000000 in
set_option maxRecDepth 100000 in
theorem lc_write {p : Program} {l : Launch} {e : Env} {s : State} {m : MethodId} {below : List Frame} {meth : Method} {c : Code} {b L : Nat} {xs : Nat → Int32} {J : LJ} {Inv : XS → XS → Prop} (F : fx_ p s m #[Value.ref b] meth c code 8 ret "InodeDeskLaw" (Cond.initialized "InodeDeskLaw" :: gT)) (hl9 : l.stackTraces = false) (hZ : xz_ (fun q : Nat => s.heap.size ≤ q) s) (hN : xn_ s) (hX : va_X b L xs s s.heap) (hbl : b < s.heap.size) (St : St_all (jn J) Inv) {x4 : Int32} {cells slots : Nat} (hcc : cells + 5 ≤ 601024) (hss : slots + 25 ≤ 7293000) (hin : ∀ k : Int32, 0 ≤ k → k < 6 → vp_in (x4 + k) L) (nxt : lw_next p l e s m below meth c b J Inv x4 cells slots) (σ τ : XS) (v : Nat → Int64) (hI : Inv σ τ) (H : Heap) (locs : List Loc) (ls : Array Slot) (hl : lv_has ls 8 [(0, .ref b), (1, .ref (ka (jX J) 0)), (2, .ref (ka (jM J) 0)), (3, .ref (jq J)), (4, .int x4)]) (hW : gw_ (kD (KC J τ v)) vwCl (tyX (KC J τ v)) (wX (KC J τ v)) (fun q : Nat => s.heap.size ≤ q) s σ H locs) : W p l e room_1 s m #[Value.ref b] below meth c H locs cells slots (lw_Z below #[Value.ref b] s) (F0 m 801 ls []) := by
  have hx := F.1
  have hb := F.2.1
  have hml := F.2.2.2.1
  have hown := F.2.2.2.2.1
  have hts := F.2.2.2.2.2.1
  have hG : ∀ x ∈ gT, x.before _ s = true := fun x h => hts x (List.mem_cons_of_mem _ h)
  have hbA : ¬ (fun q : Nat => s.heap.size ≤ q) b := Nat.not_le.mpr hbl
  obtain ⟨o1, o2, h1, h2, hI, hc⟩ := (St.2.2.2.2.2.2.2.2.2.2.2.2.2.1) σ τ (xs (x4 + (1 : Int32)).toNatClampNeg) hI
  rcases hc with ⟨e1, e2, e3⟩ | ⟨e1, e2⟩ | ⟨e1, e2⟩ | ⟨e1, e2⟩ | ⟨e1, e2⟩
  · refine lv_aload_n hx hb dL_801 rfl (lv_at hl 1 rfl) ?_
    refine lv_aload_n hx hb dL_802 rfl (lv_at hl 0 rfl) ?_
    refine lv_iload hx hb dL_803 (lv_at hl 4 rfl) ?_
    refine lv_iconst (v := (1 : Int32)) hx hb dL_805 (by decide) ?_
    refine lv_iadd hx hb dL_806 ?_
    refine va_sld hx hb hX hbl hbA hW.2.2.2.1 (hin (1 : Int32) (by decide) (by decide)) dL_807 ?_
    refine lv_aload_n hx hb dL_808 rfl (lv_at hl 3 rfl) ?_
    have hWo := gX_H (v0 := v) hW
    refine gh_S (As := [.ref (ka (jX J) 0), .int (xs (x4 + (1 : Int32)).toNatClampNeg), .ref (jq J)]) (mc' := cells + 4) (ms' := slots + 24) F hZ hN hWo (hL_write hl9 h1 (Or.inl ⟨e1, rfl⟩)) (gT_I q_6_10) rfl (hG _ q_6_8) (hG _ q_6_9) (hG _ q_1_0) hdX10_write.2 ⟨(Nat.le_of_ble_eq_true rfl), (Nat.le_of_ble_eq_true rfl)⟩ rfl hl.1 rfl (Nat.le_of_ble_eq_true rfl) dL_809 ⟨by show cells + 4 ≤ 601024; omega, by show slots + 24 ≤ 7293000; omega⟩ rfl rfl (fun H locs hW => ?_)
    have hW := gH_X (J := J) (τ := τ) (v := (if o1.1 = 0 then vp_updL v 0 o1.2.1.toInt64 else v)) hW
    refine lv_istore (lv' := [(5, .int (0 : Int32)), (0, .ref b), (1, .ref (ka (jX J) 0)), (2, .ref (ka (jM J) 0)), (3, .ref (jq J)), (4, .int x4)]) hx hb dL_812 hl (by decide) rfl (fun ls hl => ?_)
    refine lv_aload_n hx hb dL_814 rfl (lv_at hl 3 rfl) ?_
    refine lv_aload_n hx hb dL_815 rfl (lv_at hl 1 rfl) ?_
    refine lv_iload hx hb dL_816 (lv_at hl 5 rfl) ?_
    refine lv_iconst (v := (1 : Int32)) hx hb dL_818 (by decide) ?_
    refine lv_iadd hx hb dL_819 ?_
    refine va_sld hx hb hX hbl hbA hW.2.2.2.1 (hin (1 : Int32) (by decide) (by decide)) dL_820 ?_
    have hW := toM hW
    refine gw_Vi (As := [.int (xs (x4 + (1 : Int32)).toNatClampNeg)]) (mc' := cells + 4) (ms' := slots + 24) F hW (mMX12_write_0 h2) (cwV 1 hts (gT_V q_7_160 q_7_161 q_7_162 q_1_12 q_7_163) rfl rfl rfl hdX12_write ⟨(Nat.le_of_ble_eq_true rfl), (Nat.le_of_ble_eq_true rfl)⟩) 0 10 (aM_0 _ _) rfl rfl hl.1 rfl (Nat.le_of_ble_eq_true rfl) dL_821 ⟨by show cells + 4 + 0 ≤ 601024; omega, by show slots + 24 + 0 ≤ 7293000; omega⟩ rfl rfl (fun H locs hW => ?_)
    have hW := toX hW
    refine lv_istore (lv' := [(6, .int o2.1), (5, .int (0 : Int32)), (0, .ref b), (1, .ref (ka (jX J) 0)), (2, .ref (ka (jM J) 0)), (3, .ref (jq J)), (4, .int x4)]) hx hb dL_824 hl (by decide) rfl (fun ls hl => ?_)
    refine lv_aload_n hx hb dL_826 rfl (lv_at hl 4 rfl) ?_
    have hW := toM hW
    refine gw_Vi (As := []) (mc' := cells + 4) (ms' := slots + 24) F hW (mMX12_thrown_0 (rfl : fMX12_thrown_0 (jn J) o2.2 = some (o2.2.1 0, o2.2))) (cwV 0 hts (gT_V q_6_214 q_6_215 q_6_216 q_1_12 q_6_217) rfl rfl rfl hdX12_thrown ⟨(Nat.le_of_ble_eq_true rfl), (Nat.le_of_ble_eq_true rfl)⟩) 0 10 (aM_0 _ _) rfl rfl hl.1 rfl (Nat.le_of_ble_eq_true rfl) dL_827 ⟨by show cells + 4 + 0 ≤ 601024; omega, by show slots + 24 + 0 ≤ 7293000; omega⟩ rfl rfl (fun H locs hW => ?_)
    have hW := toX hW
    refine lv_iload hx hb dL_830 (lv_at hl 1 rfl) ?_
    refine lv_icmp_eq (tgt := 837) hx hb dL_832 (by decide) (fun c832 => ?_) (fun c832 => absurd (e2) c832)
    refine lv_iload hx hb dL_837 (lv_at hl 1 rfl) ?_
    refine lv_if_ne (tgt := 854) hx hb dL_839 (by decide) (fun c839 => absurd (rfl) c839) (fun c839 => ?_)
    refine lv_aload_n hx hb dL_842 rfl (lv_at hl 5 rfl) ?_
    refine lv_iconst (v := (0 : Int32)) hx hb dL_843 (by decide) ?_
    have hWo := gX_H (v0 := (if o1.1 = 0 then vp_updL v 0 o1.2.1.toInt64 else v)) hW
    refine gw_lald F hWo 19 8 (aH_o _ _ _) rfl (by decide) dL_844 ?_
    refine lv_iload hx hb dL_845 (lv_at hl 0 rfl) ?_
    refine lv_i2l (v := o2.1.toInt64) hx hb dL_847 rfl ?_
    refine W.lcmp hx hb dL_848 ?_
    refine lv_if_eq (tgt := 854) hx hb dL_849 (by decide) (fun c849 => ?_) (fun c849 => absurd (law_eq e1 (congrArg Int32.toInt64 e3)) c849)
    refine lv_goto (tgt := 1133) hx hb dL_854 (by decide) ?_
    exact W.widen (k := cells + 5) (n := slots + 25) (by omega) (by omega) (nxt _ _ ((if o1.1 = 0 then vp_updL v 0 o1.2.1.toInt64 else v)) H locs ls hI (lv_sub hl [2, 3, 4, 5, 6] rfl) hW)
  · refine lv_aload_n hx hb dL_801 rfl (lv_at hl 1 rfl) ?_
    refine lv_aload_n hx hb dL_802 rfl (lv_at hl 0 rfl) ?_
    refine lv_iload hx hb dL_803 (lv_at hl 4 rfl) ?_
    refine lv_iconst (v := (1 : Int32)) hx hb dL_805 (by decide) ?_
    refine lv_iadd hx hb dL_806 ?_
    refine va_sld hx hb hX hbl hbA hW.2.2.2.1 (hin (1 : Int32) (by decide) (by decide)) dL_807 ?_
    refine lv_aload_n hx hb dL_808 rfl (lv_at hl 3 rfl) ?_
    have hWo := gX_H (v0 := v) hW
    refine gh_S (As := [.ref (ka (jX J) 0), .int (xs (x4 + (1 : Int32)).toNatClampNeg), .ref (jq J)]) (mc' := cells + 4) (ms' := slots + 24) F hZ hN hWo (hL_write hl9 h1 (Or.inr (Or.inl ⟨e1, rfl⟩))) (gT_I q_6_10) rfl (hG _ q_6_8) (hG _ q_6_9) (hG _ q_1_0) hdX10_write.2 ⟨(Nat.le_of_ble_eq_true rfl), (Nat.le_of_ble_eq_true rfl)⟩ rfl hl.1 rfl (Nat.le_of_ble_eq_true rfl) dL_809 ⟨by show cells + 4 ≤ 601024; omega, by show slots + 24 ≤ 7293000; omega⟩ rfl rfl (fun H locs hW => ?_)
    have hW := gH_X (J := J) (τ := τ) (v := (if o1.1 = 0 then vp_updL v 0 o1.2.1.toInt64 else v)) hW
    refine lv_istore (lv' := [(5, .int (1 : Int32)), (0, .ref b), (1, .ref (ka (jX J) 0)), (2, .ref (ka (jM J) 0)), (3, .ref (jq J)), (4, .int x4)]) hx hb dL_812 hl (by decide) rfl (fun ls hl => ?_)
    refine lv_aload_n hx hb dL_814 rfl (lv_at hl 3 rfl) ?_
    refine lv_aload_n hx hb dL_815 rfl (lv_at hl 1 rfl) ?_
    refine lv_iload hx hb dL_816 (lv_at hl 5 rfl) ?_
    refine lv_iconst (v := (1 : Int32)) hx hb dL_818 (by decide) ?_
    refine lv_iadd hx hb dL_819 ?_
    refine va_sld hx hb hX hbl hbA hW.2.2.2.1 (hin (1 : Int32) (by decide) (by decide)) dL_820 ?_
    have hW := toM hW
    refine gw_Vi (As := [.int (xs (x4 + (1 : Int32)).toNatClampNeg)]) (mc' := cells + 4) (ms' := slots + 24) F hW (mMX12_write_0 h2) (cwV 1 hts (gT_V q_7_160 q_7_161 q_7_162 q_1_12 q_7_163) rfl rfl rfl hdX12_write ⟨(Nat.le_of_ble_eq_true rfl), (Nat.le_of_ble_eq_true rfl)⟩) 0 10 (aM_0 _ _) rfl rfl hl.1 rfl (Nat.le_of_ble_eq_true rfl) dL_821 ⟨by show cells + 4 + 0 ≤ 601024; omega, by show slots + 24 + 0 ≤ 7293000; omega⟩ rfl rfl (fun H locs hW => ?_)
    have hW := toX hW
    refine lv_istore (lv' := [(6, .int o2.1), (5, .int (1 : Int32)), (0, .ref b), (1, .ref (ka (jX J) 0)), (2, .ref (ka (jM J) 0)), (3, .ref (jq J)), (4, .int x4)]) hx hb dL_824 hl (by decide) rfl (fun ls hl => ?_)
    refine lv_aload_n hx hb dL_826 rfl (lv_at hl 4 rfl) ?_
    have hW := toM hW
    refine gw_Vi (As := []) (mc' := cells + 4) (ms' := slots + 24) F hW (mMX12_thrown_0 (rfl : fMX12_thrown_0 (jn J) o2.2 = some (o2.2.1 0, o2.2))) (cwV 0 hts (gT_V q_6_214 q_6_215 q_6_216 q_1_12 q_6_217) rfl rfl rfl hdX12_thrown ⟨(Nat.le_of_ble_eq_true rfl), (Nat.le_of_ble_eq_true rfl)⟩) 0 10 (aM_0 _ _) rfl rfl hl.1 rfl (Nat.le_of_ble_eq_true rfl) dL_827 ⟨by show cells + 4 + 0 ≤ 601024; omega, by show slots + 24 + 0 ≤ 7293000; omega⟩ rfl rfl (fun H locs hW => ?_)
    have hW := toX hW
    refine lv_iload hx hb dL_830 (lv_at hl 1 rfl) ?_
    refine lv_icmp_eq (tgt := 837) hx hb dL_832 (by decide) (fun c832 => ?_) (fun c832 => absurd (e2) c832)
    refine lv_iload hx hb dL_837 (lv_at hl 1 rfl) ?_
    refine lv_if_ne (tgt := 854) hx hb dL_839 (by decide) (fun c839 => ?_) (fun c839 => absurd c839 ((by decide)))
    refine lv_goto (tgt := 1133) hx hb dL_854 (by decide) ?_
    exact W.widen (k := cells + 5) (n := slots + 25) (by omega) (by omega) (nxt _ _ ((if o1.1 = 0 then vp_updL v 0 o1.2.1.toInt64 else v)) H locs ls hI (lv_sub hl [2, 3, 4, 5, 6] rfl) hW)
  · refine lv_aload_n hx hb dL_801 rfl (lv_at hl 1 rfl) ?_
    refine lv_aload_n hx hb dL_802 rfl (lv_at hl 0 rfl) ?_
    refine lv_iload hx hb dL_803 (lv_at hl 4 rfl) ?_
    refine lv_iconst (v := (1 : Int32)) hx hb dL_805 (by decide) ?_
    refine lv_iadd hx hb dL_806 ?_
    refine va_sld hx hb hX hbl hbA hW.2.2.2.1 (hin (1 : Int32) (by decide) (by decide)) dL_807 ?_
    refine lv_aload_n hx hb dL_808 rfl (lv_at hl 3 rfl) ?_
    have hWo := gX_H (v0 := v) hW
    refine gh_S (As := [.ref (ka (jX J) 0), .int (xs (x4 + (1 : Int32)).toNatClampNeg), .ref (jq J)]) (mc' := cells + 4) (ms' := slots + 24) F hZ hN hWo (hL_write hl9 h1 (Or.inr (Or.inr (Or.inl ⟨e1, rfl⟩)))) (gT_I q_6_10) rfl (hG _ q_6_8) (hG _ q_6_9) (hG _ q_1_0) hdX10_write.2 ⟨(Nat.le_of_ble_eq_true rfl), (Nat.le_of_ble_eq_true rfl)⟩ rfl hl.1 rfl (Nat.le_of_ble_eq_true rfl) dL_809 ⟨by show cells + 4 ≤ 601024; omega, by show slots + 24 ≤ 7293000; omega⟩ rfl rfl (fun H locs hW => ?_)
    have hW := gH_X (J := J) (τ := τ) (v := (if o1.1 = 0 then vp_updL v 0 o1.2.1.toInt64 else v)) hW
    refine lv_istore (lv' := [(5, .int (2 : Int32)), (0, .ref b), (1, .ref (ka (jX J) 0)), (2, .ref (ka (jM J) 0)), (3, .ref (jq J)), (4, .int x4)]) hx hb dL_812 hl (by decide) rfl (fun ls hl => ?_)
    refine lv_aload_n hx hb dL_814 rfl (lv_at hl 3 rfl) ?_
    refine lv_aload_n hx hb dL_815 rfl (lv_at hl 1 rfl) ?_
    refine lv_iload hx hb dL_816 (lv_at hl 5 rfl) ?_
    refine lv_iconst (v := (1 : Int32)) hx hb dL_818 (by decide) ?_
    refine lv_iadd hx hb dL_819 ?_
    refine va_sld hx hb hX hbl hbA hW.2.2.2.1 (hin (1 : Int32) (by decide) (by decide)) dL_820 ?_
    have hW := toM hW
    refine gw_Vi (As := [.int (xs (x4 + (1 : Int32)).toNatClampNeg)]) (mc' := cells + 4) (ms' := slots + 24) F hW (mMX12_write_0 h2) (cwV 1 hts (gT_V q_7_160 q_7_161 q_7_162 q_1_12 q_7_163) rfl rfl rfl hdX12_write ⟨(Nat.le_of_ble_eq_true rfl), (Nat.le_of_ble_eq_true rfl)⟩) 0 10 (aM_0 _ _) rfl rfl hl.1 rfl (Nat.le_of_ble_eq_true rfl) dL_821 ⟨by show cells + 4 + 0 ≤ 601024; omega, by show slots + 24 + 0 ≤ 7293000; omega⟩ rfl rfl (fun H locs hW => ?_)
    have hW := toX hW
    refine lv_istore (lv' := [(6, .int o2.1), (5, .int (2 : Int32)), (0, .ref b), (1, .ref (ka (jX J) 0)), (2, .ref (ka (jM J) 0)), (3, .ref (jq J)), (4, .int x4)]) hx hb dL_824 hl (by decide) rfl (fun ls hl => ?_)
    refine lv_aload_n hx hb dL_826 rfl (lv_at hl 4 rfl) ?_
    have hW := toM hW
    refine gw_Vi (As := []) (mc' := cells + 4) (ms' := slots + 24) F hW (mMX12_thrown_0 (rfl : fMX12_thrown_0 (jn J) o2.2 = some (o2.2.1 0, o2.2))) (cwV 0 hts (gT_V q_6_214 q_6_215 q_6_216 q_1_12 q_6_217) rfl rfl rfl hdX12_thrown ⟨(Nat.le_of_ble_eq_true rfl), (Nat.le_of_ble_eq_true rfl)⟩) 0 10 (aM_0 _ _) rfl rfl hl.1 rfl (Nat.le_of_ble_eq_true rfl) dL_827 ⟨by show cells + 4 + 0 ≤ 601024; omega, by show slots + 24 + 0 ≤ 7293000; omega⟩ rfl rfl (fun H locs hW => ?_)
    have hW := toX hW
    refine lv_iload hx hb dL_830 (lv_at hl 1 rfl) ?_
    refine lv_icmp_eq (tgt := 837) hx hb dL_832 (by decide) (fun c832 => ?_) (fun c832 => absurd (e2) c832)
    refine lv_iload hx hb dL_837 (lv_at hl 1 rfl) ?_
    refine lv_if_ne (tgt := 854) hx hb dL_839 (by decide) (fun c839 => ?_) (fun c839 => absurd c839 ((by decide)))
    refine lv_goto (tgt := 1133) hx hb dL_854 (by decide) ?_
    exact W.widen (k := cells + 5) (n := slots + 25) (by omega) (by omega) (nxt _ _ ((if o1.1 = 0 then vp_updL v 0 o1.2.1.toInt64 else v)) H locs ls hI (lv_sub hl [2, 3, 4, 5, 6] rfl) hW)
  · refine lv_aload_n hx hb dL_801 rfl (lv_at hl 1 rfl) ?_
    refine lv_aload_n hx hb dL_802 rfl (lv_at hl 0 rfl) ?_
    refine lv_iload hx hb dL_803 (lv_at hl 4 rfl) ?_
    refine lv_iconst (v := (1 : Int32)) hx hb dL_805 (by decide) ?_
    refine lv_iadd hx hb dL_806 ?_
    refine va_sld hx hb hX hbl hbA hW.2.2.2.1 (hin (1 : Int32) (by decide) (by decide)) dL_807 ?_
    refine lv_aload_n hx hb dL_808 rfl (lv_at hl 3 rfl) ?_
    have hWo := gX_H (v0 := v) hW
    refine gh_S (As := [.ref (ka (jX J) 0), .int (xs (x4 + (1 : Int32)).toNatClampNeg), .ref (jq J)]) (mc' := cells + 4) (ms' := slots + 24) F hZ hN hWo (hL_write hl9 h1 (Or.inr (Or.inr (Or.inr (Or.inl ⟨e1, rfl⟩))))) (gT_I q_6_10) rfl (hG _ q_6_8) (hG _ q_6_9) (hG _ q_1_0) hdX10_write.2 ⟨(Nat.le_of_ble_eq_true rfl), (Nat.le_of_ble_eq_true rfl)⟩ rfl hl.1 rfl (Nat.le_of_ble_eq_true rfl) dL_809 ⟨by show cells + 4 ≤ 601024; omega, by show slots + 24 ≤ 7293000; omega⟩ rfl rfl (fun H locs hW => ?_)
    have hW := gH_X (J := J) (τ := τ) (v := (if o1.1 = 0 then vp_updL v 0 o1.2.1.toInt64 else v)) hW
    refine lv_istore (lv' := [(5, .int (3 : Int32)), (0, .ref b), (1, .ref (ka (jX J) 0)), (2, .ref (ka (jM J) 0)), (3, .ref (jq J)), (4, .int x4)]) hx hb dL_812 hl (by decide) rfl (fun ls hl => ?_)
    refine lv_aload_n hx hb dL_814 rfl (lv_at hl 3 rfl) ?_
    refine lv_aload_n hx hb dL_815 rfl (lv_at hl 1 rfl) ?_
    refine lv_iload hx hb dL_816 (lv_at hl 5 rfl) ?_
    refine lv_iconst (v := (1 : Int32)) hx hb dL_818 (by decide) ?_
    refine lv_iadd hx hb dL_819 ?_
    refine va_sld hx hb hX hbl hbA hW.2.2.2.1 (hin (1 : Int32) (by decide) (by decide)) dL_820 ?_
    have hW := toM hW
    refine gw_Vi (As := [.int (xs (x4 + (1 : Int32)).toNatClampNeg)]) (mc' := cells + 4) (ms' := slots + 24) F hW (mMX12_write_0 h2) (cwV 1 hts (gT_V q_7_160 q_7_161 q_7_162 q_1_12 q_7_163) rfl rfl rfl hdX12_write ⟨(Nat.le_of_ble_eq_true rfl), (Nat.le_of_ble_eq_true rfl)⟩) 0 10 (aM_0 _ _) rfl rfl hl.1 rfl (Nat.le_of_ble_eq_true rfl) dL_821 ⟨by show cells + 4 + 0 ≤ 601024; omega, by show slots + 24 + 0 ≤ 7293000; omega⟩ rfl rfl (fun H locs hW => ?_)
    have hW := toX hW
    refine lv_istore (lv' := [(6, .int o2.1), (5, .int (3 : Int32)), (0, .ref b), (1, .ref (ka (jX J) 0)), (2, .ref (ka (jM J) 0)), (3, .ref (jq J)), (4, .int x4)]) hx hb dL_824 hl (by decide) rfl (fun ls hl => ?_)
    refine lv_aload_n hx hb dL_826 rfl (lv_at hl 4 rfl) ?_
    have hW := toM hW
    refine gw_Vi (As := []) (mc' := cells + 4) (ms' := slots + 24) F hW (mMX12_thrown_0 (rfl : fMX12_thrown_0 (jn J) o2.2 = some (o2.2.1 0, o2.2))) (cwV 0 hts (gT_V q_6_214 q_6_215 q_6_216 q_1_12 q_6_217) rfl rfl rfl hdX12_thrown ⟨(Nat.le_of_ble_eq_true rfl), (Nat.le_of_ble_eq_true rfl)⟩) 0 10 (aM_0 _ _) rfl rfl hl.1 rfl (Nat.le_of_ble_eq_true rfl) dL_827 ⟨by show cells + 4 + 0 ≤ 601024; omega, by show slots + 24 + 0 ≤ 7293000; omega⟩ rfl rfl (fun H locs hW => ?_)
    have hW := toX hW
    refine lv_iload hx hb dL_830 (lv_at hl 1 rfl) ?_
    refine lv_icmp_eq (tgt := 837) hx hb dL_832 (by decide) (fun c832 => ?_) (fun c832 => absurd (e2) c832)
    refine lv_iload hx hb dL_837 (lv_at hl 1 rfl) ?_
    refine lv_if_ne (tgt := 854) hx hb dL_839 (by decide) (fun c839 => ?_) (fun c839 => absurd c839 ((by decide)))
    refine lv_goto (tgt := 1133) hx hb dL_854 (by decide) ?_
    exact W.widen (k := cells + 5) (n := slots + 25) (by omega) (by omega) (nxt _ _ ((if o1.1 = 0 then vp_updL v 0 o1.2.1.toInt64 else v)) H locs ls hI (lv_sub hl [2, 3, 4, 5, 6] rfl) hW)
  · refine lv_aload_n hx hb dL_801 rfl (lv_at hl 1 rfl) ?_
    refine lv_aload_n hx hb dL_802 rfl (lv_at hl 0 rfl) ?_
    refine lv_iload hx hb dL_803 (lv_at hl 4 rfl) ?_
    refine lv_iconst (v := (1 : Int32)) hx hb dL_805 (by decide) ?_
    refine lv_iadd hx hb dL_806 ?_
    refine va_sld hx hb hX hbl hbA hW.2.2.2.1 (hin (1 : Int32) (by decide) (by decide)) dL_807 ?_
    refine lv_aload_n hx hb dL_808 rfl (lv_at hl 3 rfl) ?_
    have hWo := gX_H (v0 := v) hW
    refine gh_S (As := [.ref (ka (jX J) 0), .int (xs (x4 + (1 : Int32)).toNatClampNeg), .ref (jq J)]) (mc' := cells + 4) (ms' := slots + 24) F hZ hN hWo (hL_write hl9 h1 (Or.inr (Or.inr (Or.inr (Or.inr (⟨e1, rfl⟩)))))) (gT_I q_6_10) rfl (hG _ q_6_8) (hG _ q_6_9) (hG _ q_1_0) hdX10_write.2 ⟨(Nat.le_of_ble_eq_true rfl), (Nat.le_of_ble_eq_true rfl)⟩ rfl hl.1 rfl (Nat.le_of_ble_eq_true rfl) dL_809 ⟨by show cells + 4 ≤ 601024; omega, by show slots + 24 ≤ 7293000; omega⟩ rfl rfl (fun H locs hW => ?_)
    have hW := gH_X (J := J) (τ := τ) (v := (if o1.1 = 0 then vp_updL v 0 o1.2.1.toInt64 else v)) hW
    refine lv_istore (lv' := [(5, .int (4 : Int32)), (0, .ref b), (1, .ref (ka (jX J) 0)), (2, .ref (ka (jM J) 0)), (3, .ref (jq J)), (4, .int x4)]) hx hb dL_812 hl (by decide) rfl (fun ls hl => ?_)
    refine lv_aload_n hx hb dL_814 rfl (lv_at hl 3 rfl) ?_
    refine lv_aload_n hx hb dL_815 rfl (lv_at hl 1 rfl) ?_
    refine lv_iload hx hb dL_816 (lv_at hl 5 rfl) ?_
    refine lv_iconst (v := (1 : Int32)) hx hb dL_818 (by decide) ?_
    refine lv_iadd hx hb dL_819 ?_
    refine va_sld hx hb hX hbl hbA hW.2.2.2.1 (hin (1 : Int32) (by decide) (by decide)) dL_820 ?_
    have hW := toM hW
    refine gw_Vi (As := [.int (xs (x4 + (1 : Int32)).toNatClampNeg)]) (mc' := cells + 4) (ms' := slots + 24) F hW (mMX12_write_0 h2) (cwV 1 hts (gT_V q_7_160 q_7_161 q_7_162 q_1_12 q_7_163) rfl rfl rfl hdX12_write ⟨(Nat.le_of_ble_eq_true rfl), (Nat.le_of_ble_eq_true rfl)⟩) 0 10 (aM_0 _ _) rfl rfl hl.1 rfl (Nat.le_of_ble_eq_true rfl) dL_821 ⟨by show cells + 4 + 0 ≤ 601024; omega, by show slots + 24 + 0 ≤ 7293000; omega⟩ rfl rfl (fun H locs hW => ?_)
    have hW := toX hW
    refine lv_istore (lv' := [(6, .int o2.1), (5, .int (4 : Int32)), (0, .ref b), (1, .ref (ka (jX J) 0)), (2, .ref (ka (jM J) 0)), (3, .ref (jq J)), (4, .int x4)]) hx hb dL_824 hl (by decide) rfl (fun ls hl => ?_)
    refine lv_aload_n hx hb dL_826 rfl (lv_at hl 4 rfl) ?_
    have hW := toM hW
    refine gw_Vi (As := []) (mc' := cells + 4) (ms' := slots + 24) F hW (mMX12_thrown_0 (rfl : fMX12_thrown_0 (jn J) o2.2 = some (o2.2.1 0, o2.2))) (cwV 0 hts (gT_V q_6_214 q_6_215 q_6_216 q_1_12 q_6_217) rfl rfl rfl hdX12_thrown ⟨(Nat.le_of_ble_eq_true rfl), (Nat.le_of_ble_eq_true rfl)⟩) 0 10 (aM_0 _ _) rfl rfl hl.1 rfl (Nat.le_of_ble_eq_true rfl) dL_827 ⟨by show cells + 4 + 0 ≤ 601024; omega, by show slots + 24 + 0 ≤ 7293000; omega⟩ rfl rfl (fun H locs hW => ?_)
    have hW := toX hW
    refine lv_iload hx hb dL_830 (lv_at hl 1 rfl) ?_
    refine lv_icmp_eq (tgt := 837) hx hb dL_832 (by decide) (fun c832 => ?_) (fun c832 => absurd (e2) c832)
    refine lv_iload hx hb dL_837 (lv_at hl 1 rfl) ?_
    refine lv_if_ne (tgt := 854) hx hb dL_839 (by decide) (fun c839 => ?_) (fun c839 => absurd c839 ((by decide)))
    refine lv_goto (tgt := 1133) hx hb dL_854 (by decide) ?_
    exact W.widen (k := cells + 5) (n := slots + 25) (by omega) (by omega) (nxt _ _ ((if o1.1 = 0 then vp_updL v 0 o1.2.1.toInt64 else v)) H locs ls hI (lv_sub hl [2, 3, 4, 5, 6] rfl) hW)
set_option maxHeartbeats 4000000 in
set_option maxRecDepth 100000 in
theorem lc_grow {p : Program} {l : Launch} {e : Env} {s : State} {m : MethodId} {below : List Frame} {meth : Method} {c : Code} {b L : Nat} {xs : Nat → Int32} {J : LJ} {Inv : XS → XS → Prop} (F : fx_ p s m #[Value.ref b] meth c code 8 ret "InodeDeskLaw" (Cond.initialized "InodeDeskLaw" :: gT)) (hl9 : l.stackTraces = false) (hZ : xz_ (fun q : Nat => s.heap.size ≤ q) s) (hN : xn_ s) (hX : va_X b L xs s s.heap) (hbl : b < s.heap.size) (St : St_all (jn J) Inv) {x4 : Int32} {cells slots : Nat} (hcc : cells + 5 ≤ 601024) (hss : slots + 25 ≤ 7293000) (hin : ∀ k : Int32, 0 ≤ k → k < 6 → vp_in (x4 + k) L) (nxt : lw_next p l e s m below meth c b J Inv x4 cells slots) (σ τ : XS) (v : Nat → Int64) (hI : Inv σ τ) (H : Heap) (locs : List Loc) (ls : Array Slot) (hl : lv_has ls 8 [(0, .ref b), (1, .ref (ka (jX J) 0)), (2, .ref (ka (jM J) 0)), (3, .ref (jq J)), (4, .int x4)]) (hW : gw_ (kD (KC J τ v)) vwCl (tyX (KC J τ v)) (wX (KC J τ v)) (fun q : Nat => s.heap.size ≤ q) s σ H locs) : W p l e room_1 s m #[Value.ref b] below meth c H locs cells slots (lw_Z below #[Value.ref b] s) (F0 m 857 ls []) := by
  have hx := F.1
  have hb := F.2.1
  have hml := F.2.2.2.1
  have hown := F.2.2.2.2.1
  have hts := F.2.2.2.2.2.1
  have hG : ∀ x ∈ gT, x.before _ s = true := fun x h => hts x (List.mem_cons_of_mem _ h)
  have hbA : ¬ (fun q : Nat => s.heap.size ≤ q) b := Nat.not_le.mpr hbl
  obtain ⟨o1, o2, h1, h2, hI, hc⟩ := (St.2.2.2.2.2.2.2.2.2.2.2.2.2.2.1) σ τ (xs (x4 + (1 : Int32)).toNatClampNeg) (xs (x4 + (2 : Int32)).toNatClampNeg) (xs (x4 + (3 : Int32)).toNatClampNeg) hI
  rcases hc with ⟨e1, e2, e3⟩ | ⟨e1, e2⟩ | ⟨e1, e2⟩ | ⟨e1, e2⟩ | ⟨e1, e2⟩
  · refine lv_aload_n hx hb dL_857 rfl (lv_at hl 1 rfl) ?_
    refine lv_aload_n hx hb dL_858 rfl (lv_at hl 0 rfl) ?_
    refine lv_iload hx hb dL_859 (lv_at hl 4 rfl) ?_
    refine lv_iconst (v := (1 : Int32)) hx hb dL_861 (by decide) ?_
    refine lv_iadd hx hb dL_862 ?_
    refine va_sld hx hb hX hbl hbA hW.2.2.2.1 (hin (1 : Int32) (by decide) (by decide)) dL_863 ?_
    refine lv_aload_n hx hb dL_864 rfl (lv_at hl 0 rfl) ?_
    refine lv_iload hx hb dL_865 (lv_at hl 4 rfl) ?_
    refine lv_iconst (v := (2 : Int32)) hx hb dL_867 (by decide) ?_
    refine lv_iadd hx hb dL_868 ?_
    refine va_sld hx hb hX hbl hbA hW.2.2.2.1 (hin (2 : Int32) (by decide) (by decide)) dL_869 ?_
    refine lv_aload_n hx hb dL_870 rfl (lv_at hl 0 rfl) ?_
    refine lv_iload hx hb dL_871 (lv_at hl 4 rfl) ?_
    refine lv_iconst (v := (3 : Int32)) hx hb dL_873 (by decide) ?_
    refine lv_iadd hx hb dL_874 ?_
    refine va_sld hx hb hX hbl hbA hW.2.2.2.1 (hin (3 : Int32) (by decide) (by decide)) dL_875 ?_
    refine lv_aload_n hx hb dL_876 rfl (lv_at hl 3 rfl) ?_
    have hWo := gX_H (v0 := v) hW
    refine gh_S (As := [.ref (ka (jX J) 0), .int (xs (x4 + (1 : Int32)).toNatClampNeg), .int (xs (x4 + (2 : Int32)).toNatClampNeg), .int (xs (x4 + (3 : Int32)).toNatClampNeg), .ref (jq J)]) (mc' := cells + 5) (ms' := slots + 25) F hZ hN hWo (hL_grow hl9 h1 (Or.inl ⟨e1, rfl⟩)) (gT_I q_6_33) rfl (hG _ q_6_31) (hG _ q_6_32) (hG _ q_1_0) hdX10_grow.2 ⟨(Nat.le_of_ble_eq_true rfl), (Nat.le_of_ble_eq_true rfl)⟩ rfl hl.1 rfl (Nat.le_of_ble_eq_true rfl) dL_877 ⟨by show cells + 5 ≤ 601024; omega, by show slots + 25 ≤ 7293000; omega⟩ rfl rfl (fun H locs hW => ?_)
    have hW := gH_X (J := J) (τ := τ) (v := (if o1.1 = 0 then vp_updL v 0 o1.2.1.toInt64 else v)) hW
    refine lv_istore (lv' := [(5, .int (0 : Int32)), (0, .ref b), (1, .ref (ka (jX J) 0)), (2, .ref (ka (jM J) 0)), (3, .ref (jq J)), (4, .int x4)]) hx hb dL_880 hl (by decide) rfl (fun ls hl => ?_)
    refine lv_aload_n hx hb dL_882 rfl (lv_at hl 3 rfl) ?_
    refine lv_aload_n hx hb dL_883 rfl (lv_at hl 1 rfl) ?_
    refine lv_iload hx hb dL_884 (lv_at hl 5 rfl) ?_
    refine lv_iconst (v := (1 : Int32)) hx hb dL_886 (by decide) ?_
    refine lv_iadd hx hb dL_887 ?_
    refine va_sld hx hb hX hbl hbA hW.2.2.2.1 (hin (1 : Int32) (by decide) (by decide)) dL_888 ?_
    refine lv_aload_n hx hb dL_889 rfl (lv_at hl 1 rfl) ?_
    refine lv_iload hx hb dL_890 (lv_at hl 5 rfl) ?_
    refine lv_iconst (v := (2 : Int32)) hx hb dL_892 (by decide) ?_
    refine lv_iadd hx hb dL_893 ?_
    refine va_sld hx hb hX hbl hbA hW.2.2.2.1 (hin (2 : Int32) (by decide) (by decide)) dL_894 ?_
    refine lv_aload_n hx hb dL_895 rfl (lv_at hl 1 rfl) ?_
    refine lv_iload hx hb dL_896 (lv_at hl 5 rfl) ?_
    refine lv_iconst (v := (3 : Int32)) hx hb dL_898 (by decide) ?_
    refine lv_iadd hx hb dL_899 ?_
    refine va_sld hx hb hX hbl hbA hW.2.2.2.1 (hin (3 : Int32) (by decide) (by decide)) dL_900 ?_
    have hW := toM hW
    refine gw_Vi (As := [.int (xs (x4 + (1 : Int32)).toNatClampNeg), .int (xs (x4 + (2 : Int32)).toNatClampNeg), .int (xs (x4 + (3 : Int32)).toNatClampNeg)]) (mc' := cells + 5) (ms' := slots + 25) F hW (mMX12_grow_0 h2) (cwV 3 hts (gT_V q_7_172 q_7_173 q_7_174 q_1_12 q_7_175) rfl rfl rfl hdX12_grow ⟨(Nat.le_of_ble_eq_true rfl), (Nat.le_of_ble_eq_true rfl)⟩) 0 10 (aM_0 _ _) rfl rfl hl.1 rfl (Nat.le_of_ble_eq_true rfl) dL_901 ⟨by show cells + 5 + 0 ≤ 601024; omega, by show slots + 25 + 0 ≤ 7293000; omega⟩ rfl rfl (fun H locs hW => ?_)
    have hW := toX hW
    refine lv_istore (lv' := [(6, .int o2.1), (5, .int (0 : Int32)), (0, .ref b), (1, .ref (ka (jX J) 0)), (2, .ref (ka (jM J) 0)), (3, .ref (jq J)), (4, .int x4)]) hx hb dL_904 hl (by decide) rfl (fun ls hl => ?_)
    refine lv_aload_n hx hb dL_906 rfl (lv_at hl 4 rfl) ?_
    have hW := toM hW
    refine gw_Vi (As := []) (mc' := cells + 5) (ms' := slots + 25) F hW (mMX12_thrown_0 (rfl : fMX12_thrown_0 (jn J) o2.2 = some (o2.2.1 0, o2.2))) (cwV 0 hts (gT_V q_6_214 q_6_215 q_6_216 q_1_12 q_6_217) rfl rfl rfl hdX12_thrown ⟨(Nat.le_of_ble_eq_true rfl), (Nat.le_of_ble_eq_true rfl)⟩) 0 10 (aM_0 _ _) rfl rfl hl.1 rfl (Nat.le_of_ble_eq_true rfl) dL_907 ⟨by show cells + 5 + 0 ≤ 601024; omega, by show slots + 25 + 0 ≤ 7293000; omega⟩ rfl rfl (fun H locs hW => ?_)
    have hW := toX hW
    refine lv_iload hx hb dL_910 (lv_at hl 1 rfl) ?_
    refine lv_icmp_eq (tgt := 917) hx hb dL_912 (by decide) (fun c912 => ?_) (fun c912 => absurd (e2) c912)
    refine lv_iload hx hb dL_917 (lv_at hl 1 rfl) ?_
    refine lv_if_ne (tgt := 934) hx hb dL_919 (by decide) (fun c919 => absurd (rfl) c919) (fun c919 => ?_)
    refine lv_aload_n hx hb dL_922 rfl (lv_at hl 5 rfl) ?_
    refine lv_iconst (v := (0 : Int32)) hx hb dL_923 (by decide) ?_
    have hWo := gX_H (v0 := (if o1.1 = 0 then vp_updL v 0 o1.2.1.toInt64 else v)) hW
    refine gw_lald F hWo 19 8 (aH_o _ _ _) rfl (by decide) dL_924 ?_
    refine lv_iload hx hb dL_925 (lv_at hl 0 rfl) ?_
    refine lv_i2l (v := o2.1.toInt64) hx hb dL_927 rfl ?_
    refine W.lcmp hx hb dL_928 ?_
    refine lv_if_eq (tgt := 934) hx hb dL_929 (by decide) (fun c929 => ?_) (fun c929 => absurd (law_eq e1 (congrArg Int32.toInt64 e3)) c929)
    refine lv_goto (tgt := 1133) hx hb dL_934 (by decide) ?_
    exact W.widen (k := cells + 5) (n := slots + 25) (by omega) (by omega) (nxt _ _ ((if o1.1 = 0 then vp_updL v 0 o1.2.1.toInt64 else v)) H locs ls hI (lv_sub hl [2, 3, 4, 5, 6] rfl) hW)
  · refine lv_aload_n hx hb dL_857 rfl (lv_at hl 1 rfl) ?_
    refine lv_aload_n hx hb dL_858 rfl (lv_at hl 0 rfl) ?_
    refine lv_iload hx hb dL_859 (lv_at hl 4 rfl) ?_
    refine lv_iconst (v := (1 : Int32)) hx hb dL_861 (by decide) ?_
    refine lv_iadd hx hb dL_862 ?_
    refine va_sld hx hb hX hbl hbA hW.2.2.2.1 (hin (1 : Int32) (by decide) (by decide)) dL_863 ?_
    refine lv_aload_n hx hb dL_864 rfl (lv_at hl 0 rfl) ?_
    refine lv_iload hx hb dL_865 (lv_at hl 4 rfl) ?_
    refine lv_iconst (v := (2 : Int32)) hx hb dL_867 (by decide) ?_
    refine lv_iadd hx hb dL_868 ?_
    refine va_sld hx hb hX hbl hbA hW.2.2.2.1 (hin (2 : Int32) (by decide) (by decide)) dL_869 ?_
    refine lv_aload_n hx hb dL_870 rfl (lv_at hl 0 rfl) ?_
    refine lv_iload hx hb dL_871 (lv_at hl 4 rfl) ?_
    refine lv_iconst (v := (3 : Int32)) hx hb dL_873 (by decide) ?_
    refine lv_iadd hx hb dL_874 ?_
    refine va_sld hx hb hX hbl hbA hW.2.2.2.1 (hin (3 : Int32) (by decide) (by decide)) dL_875 ?_
    refine lv_aload_n hx hb dL_876 rfl (lv_at hl 3 rfl) ?_
    have hWo := gX_H (v0 := v) hW
    refine gh_S (As := [.ref (ka (jX J) 0), .int (xs (x4 + (1 : Int32)).toNatClampNeg), .int (xs (x4 + (2 : Int32)).toNatClampNeg), .int (xs (x4 + (3 : Int32)).toNatClampNeg), .ref (jq J)]) (mc' := cells + 5) (ms' := slots + 25) F hZ hN hWo (hL_grow hl9 h1 (Or.inr (Or.inl ⟨e1, rfl⟩))) (gT_I q_6_33) rfl (hG _ q_6_31) (hG _ q_6_32) (hG _ q_1_0) hdX10_grow.2 ⟨(Nat.le_of_ble_eq_true rfl), (Nat.le_of_ble_eq_true rfl)⟩ rfl hl.1 rfl (Nat.le_of_ble_eq_true rfl) dL_877 ⟨by show cells + 5 ≤ 601024; omega, by show slots + 25 ≤ 7293000; omega⟩ rfl rfl (fun H locs hW => ?_)
    have hW := gH_X (J := J) (τ := τ) (v := (if o1.1 = 0 then vp_updL v 0 o1.2.1.toInt64 else v)) hW
    refine lv_istore (lv' := [(5, .int (1 : Int32)), (0, .ref b), (1, .ref (ka (jX J) 0)), (2, .ref (ka (jM J) 0)), (3, .ref (jq J)), (4, .int x4)]) hx hb dL_880 hl (by decide) rfl (fun ls hl => ?_)
    refine lv_aload_n hx hb dL_882 rfl (lv_at hl 3 rfl) ?_
    refine lv_aload_n hx hb dL_883 rfl (lv_at hl 1 rfl) ?_
    refine lv_iload hx hb dL_884 (lv_at hl 5 rfl) ?_
    refine lv_iconst (v := (1 : Int32)) hx hb dL_886 (by decide) ?_
    refine lv_iadd hx hb dL_887 ?_
    refine va_sld hx hb hX hbl hbA hW.2.2.2.1 (hin (1 : Int32) (by decide) (by decide)) dL_888 ?_
    refine lv_aload_n hx hb dL_889 rfl (lv_at hl 1 rfl) ?_
    refine lv_iload hx hb dL_890 (lv_at hl 5 rfl) ?_
    refine lv_iconst (v := (2 : Int32)) hx hb dL_892 (by decide) ?_
    refine lv_iadd hx hb dL_893 ?_
    refine va_sld hx hb hX hbl hbA hW.2.2.2.1 (hin (2 : Int32) (by decide) (by decide)) dL_894 ?_
    refine lv_aload_n hx hb dL_895 rfl (lv_at hl 1 rfl) ?_
    refine lv_iload hx hb dL_896 (lv_at hl 5 rfl) ?_
    refine lv_iconst (v := (3 : Int32)) hx hb dL_898 (by decide) ?_
    refine lv_iadd hx hb dL_899 ?_
    refine va_sld hx hb hX hbl hbA hW.2.2.2.1 (hin (3 : Int32) (by decide) (by decide)) dL_900 ?_
    have hW := toM hW
    refine gw_Vi (As := [.int (xs (x4 + (1 : Int32)).toNatClampNeg), .int (xs (x4 + (2 : Int32)).toNatClampNeg), .int (xs (x4 + (3 : Int32)).toNatClampNeg)]) (mc' := cells + 5) (ms' := slots + 25) F hW (mMX12_grow_0 h2) (cwV 3 hts (gT_V q_7_172 q_7_173 q_7_174 q_1_12 q_7_175) rfl rfl rfl hdX12_grow ⟨(Nat.le_of_ble_eq_true rfl), (Nat.le_of_ble_eq_true rfl)⟩) 0 10 (aM_0 _ _) rfl rfl hl.1 rfl (Nat.le_of_ble_eq_true rfl) dL_901 ⟨by show cells + 5 + 0 ≤ 601024; omega, by show slots + 25 + 0 ≤ 7293000; omega⟩ rfl rfl (fun H locs hW => ?_)
    have hW := toX hW
    refine lv_istore (lv' := [(6, .int o2.1), (5, .int (1 : Int32)), (0, .ref b), (1, .ref (ka (jX J) 0)), (2, .ref (ka (jM J) 0)), (3, .ref (jq J)), (4, .int x4)]) hx hb dL_904 hl (by decide) rfl (fun ls hl => ?_)
    refine lv_aload_n hx hb dL_906 rfl (lv_at hl 4 rfl) ?_
    have hW := toM hW
    refine gw_Vi (As := []) (mc' := cells + 5) (ms' := slots + 25) F hW (mMX12_thrown_0 (rfl : fMX12_thrown_0 (jn J) o2.2 = some (o2.2.1 0, o2.2))) (cwV 0 hts (gT_V q_6_214 q_6_215 q_6_216 q_1_12 q_6_217) rfl rfl rfl hdX12_thrown ⟨(Nat.le_of_ble_eq_true rfl), (Nat.le_of_ble_eq_true rfl)⟩) 0 10 (aM_0 _ _) rfl rfl hl.1 rfl (Nat.le_of_ble_eq_true rfl) dL_907 ⟨by show cells + 5 + 0 ≤ 601024; omega, by show slots + 25 + 0 ≤ 7293000; omega⟩ rfl rfl (fun H locs hW => ?_)
    have hW := toX hW
    refine lv_iload hx hb dL_910 (lv_at hl 1 rfl) ?_
    refine lv_icmp_eq (tgt := 917) hx hb dL_912 (by decide) (fun c912 => ?_) (fun c912 => absurd (e2) c912)
    refine lv_iload hx hb dL_917 (lv_at hl 1 rfl) ?_
    refine lv_if_ne (tgt := 934) hx hb dL_919 (by decide) (fun c919 => ?_) (fun c919 => absurd c919 ((by decide)))
    refine lv_goto (tgt := 1133) hx hb dL_934 (by decide) ?_
    exact W.widen (k := cells + 5) (n := slots + 25) (by omega) (by omega) (nxt _ _ ((if o1.1 = 0 then vp_updL v 0 o1.2.1.toInt64 else v)) H locs ls hI (lv_sub hl [2, 3, 4, 5, 6] rfl) hW)
  · refine lv_aload_n hx hb dL_857 rfl (lv_at hl 1 rfl) ?_
    refine lv_aload_n hx hb dL_858 rfl (lv_at hl 0 rfl) ?_
    refine lv_iload hx hb dL_859 (lv_at hl 4 rfl) ?_
    refine lv_iconst (v := (1 : Int32)) hx hb dL_861 (by decide) ?_
    refine lv_iadd hx hb dL_862 ?_
    refine va_sld hx hb hX hbl hbA hW.2.2.2.1 (hin (1 : Int32) (by decide) (by decide)) dL_863 ?_
    refine lv_aload_n hx hb dL_864 rfl (lv_at hl 0 rfl) ?_
    refine lv_iload hx hb dL_865 (lv_at hl 4 rfl) ?_
    refine lv_iconst (v := (2 : Int32)) hx hb dL_867 (by decide) ?_
    refine lv_iadd hx hb dL_868 ?_
    refine va_sld hx hb hX hbl hbA hW.2.2.2.1 (hin (2 : Int32) (by decide) (by decide)) dL_869 ?_
    refine lv_aload_n hx hb dL_870 rfl (lv_at hl 0 rfl) ?_
    refine lv_iload hx hb dL_871 (lv_at hl 4 rfl) ?_
    refine lv_iconst (v := (3 : Int32)) hx hb dL_873 (by decide) ?_
    refine lv_iadd hx hb dL_874 ?_
    refine va_sld hx hb hX hbl hbA hW.2.2.2.1 (hin (3 : Int32) (by decide) (by decide)) dL_875 ?_
    refine lv_aload_n hx hb dL_876 rfl (lv_at hl 3 rfl) ?_
    have hWo := gX_H (v0 := v) hW
    refine gh_S (As := [.ref (ka (jX J) 0), .int (xs (x4 + (1 : Int32)).toNatClampNeg), .int (xs (x4 + (2 : Int32)).toNatClampNeg), .int (xs (x4 + (3 : Int32)).toNatClampNeg), .ref (jq J)]) (mc' := cells + 5) (ms' := slots + 25) F hZ hN hWo (hL_grow hl9 h1 (Or.inr (Or.inr (Or.inl ⟨e1, rfl⟩)))) (gT_I q_6_33) rfl (hG _ q_6_31) (hG _ q_6_32) (hG _ q_1_0) hdX10_grow.2 ⟨(Nat.le_of_ble_eq_true rfl), (Nat.le_of_ble_eq_true rfl)⟩ rfl hl.1 rfl (Nat.le_of_ble_eq_true rfl) dL_877 ⟨by show cells + 5 ≤ 601024; omega, by show slots + 25 ≤ 7293000; omega⟩ rfl rfl (fun H locs hW => ?_)
    have hW := gH_X (J := J) (τ := τ) (v := (if o1.1 = 0 then vp_updL v 0 o1.2.1.toInt64 else v)) hW
    refine lv_istore (lv' := [(5, .int (2 : Int32)), (0, .ref b), (1, .ref (ka (jX J) 0)), (2, .ref (ka (jM J) 0)), (3, .ref (jq J)), (4, .int x4)]) hx hb dL_880 hl (by decide) rfl (fun ls hl => ?_)
    refine lv_aload_n hx hb dL_882 rfl (lv_at hl 3 rfl) ?_
    refine lv_aload_n hx hb dL_883 rfl (lv_at hl 1 rfl) ?_
    refine lv_iload hx hb dL_884 (lv_at hl 5 rfl) ?_
    refine lv_iconst (v := (1 : Int32)) hx hb dL_886 (by decide) ?_
    refine lv_iadd hx hb dL_887 ?_
    refine va_sld hx hb hX hbl hbA hW.2.2.2.1 (hin (1 : Int32) (by decide) (by decide)) dL_888 ?_
    refine lv_aload_n hx hb dL_889 rfl (lv_at hl 1 rfl) ?_
    refine lv_iload hx hb dL_890 (lv_at hl 5 rfl) ?_
    refine lv_iconst (v := (2 : Int32)) hx hb dL_892 (by decide) ?_
    refine lv_iadd hx hb dL_893 ?_
    refine va_sld hx hb hX hbl hbA hW.2.2.2.1 (hin (2 : Int32) (by decide) (by decide)) dL_894 ?_
    refine lv_aload_n hx hb dL_895 rfl (lv_at hl 1 rfl) ?_
    refine lv_iload hx hb dL_896 (lv_at hl 5 rfl) ?_
    refine lv_iconst (v := (3 : Int32)) hx hb dL_898 (by decide) ?_
    refine lv_iadd hx hb dL_899 ?_
    refine va_sld hx hb hX hbl hbA hW.2.2.2.1 (hin (3 : Int32) (by decide) (by decide)) dL_900 ?_
    have hW := toM hW
    refine gw_Vi (As := [.int (xs (x4 + (1 : Int32)).toNatClampNeg), .int (xs (x4 + (2 : Int32)).toNatClampNeg), .int (xs (x4 + (3 : Int32)).toNatClampNeg)]) (mc' := cells + 5) (ms' := slots + 25) F hW (mMX12_grow_0 h2) (cwV 3 hts (gT_V q_7_172 q_7_173 q_7_174 q_1_12 q_7_175) rfl rfl rfl hdX12_grow ⟨(Nat.le_of_ble_eq_true rfl), (Nat.le_of_ble_eq_true rfl)⟩) 0 10 (aM_0 _ _) rfl rfl hl.1 rfl (Nat.le_of_ble_eq_true rfl) dL_901 ⟨by show cells + 5 + 0 ≤ 601024; omega, by show slots + 25 + 0 ≤ 7293000; omega⟩ rfl rfl (fun H locs hW => ?_)
    have hW := toX hW
    refine lv_istore (lv' := [(6, .int o2.1), (5, .int (2 : Int32)), (0, .ref b), (1, .ref (ka (jX J) 0)), (2, .ref (ka (jM J) 0)), (3, .ref (jq J)), (4, .int x4)]) hx hb dL_904 hl (by decide) rfl (fun ls hl => ?_)
    refine lv_aload_n hx hb dL_906 rfl (lv_at hl 4 rfl) ?_
    have hW := toM hW
    refine gw_Vi (As := []) (mc' := cells + 5) (ms' := slots + 25) F hW (mMX12_thrown_0 (rfl : fMX12_thrown_0 (jn J) o2.2 = some (o2.2.1 0, o2.2))) (cwV 0 hts (gT_V q_6_214 q_6_215 q_6_216 q_1_12 q_6_217) rfl rfl rfl hdX12_thrown ⟨(Nat.le_of_ble_eq_true rfl), (Nat.le_of_ble_eq_true rfl)⟩) 0 10 (aM_0 _ _) rfl rfl hl.1 rfl (Nat.le_of_ble_eq_true rfl) dL_907 ⟨by show cells + 5 + 0 ≤ 601024; omega, by show slots + 25 + 0 ≤ 7293000; omega⟩ rfl rfl (fun H locs hW => ?_)
    have hW := toX hW
    refine lv_iload hx hb dL_910 (lv_at hl 1 rfl) ?_
    refine lv_icmp_eq (tgt := 917) hx hb dL_912 (by decide) (fun c912 => ?_) (fun c912 => absurd (e2) c912)
    refine lv_iload hx hb dL_917 (lv_at hl 1 rfl) ?_
    refine lv_if_ne (tgt := 934) hx hb dL_919 (by decide) (fun c919 => ?_) (fun c919 => absurd c919 ((by decide)))
    refine lv_goto (tgt := 1133) hx hb dL_934 (by decide) ?_
    exact W.widen (k := cells + 5) (n := slots + 25) (by omega) (by omega) (nxt _ _ ((if o1.1 = 0 then vp_updL v 0 o1.2.1.toInt64 else v)) H locs ls hI (lv_sub hl [2, 3, 4, 5, 6] rfl) hW)
  · refine lv_aload_n hx hb dL_857 rfl (lv_at hl 1 rfl) ?_
    refine lv_aload_n hx hb dL_858 rfl (lv_at hl 0 rfl) ?_
    refine lv_iload hx hb dL_859 (lv_at hl 4 rfl) ?_
    refine lv_iconst (v := (1 : Int32)) hx hb dL_861 (by decide) ?_
    refine lv_iadd hx hb dL_862 ?_
    refine va_sld hx hb hX hbl hbA hW.2.2.2.1 (hin (1 : Int32) (by decide) (by decide)) dL_863 ?_
    refine lv_aload_n hx hb dL_864 rfl (lv_at hl 0 rfl) ?_
    refine lv_iload hx hb dL_865 (lv_at hl 4 rfl) ?_
    refine lv_iconst (v := (2 : Int32)) hx hb dL_867 (by decide) ?_
    refine lv_iadd hx hb dL_868 ?_
    refine va_sld hx hb hX hbl hbA hW.2.2.2.1 (hin (2 : Int32) (by decide) (by decide)) dL_869 ?_
    refine lv_aload_n hx hb dL_870 rfl (lv_at hl 0 rfl) ?_
    refine lv_iload hx hb dL_871 (lv_at hl 4 rfl) ?_
    refine lv_iconst (v := (3 : Int32)) hx hb dL_873 (by decide) ?_
    refine lv_iadd hx hb dL_874 ?_
    refine va_sld hx hb hX hbl hbA hW.2.2.2.1 (hin (3 : Int32) (by decide) (by decide)) dL_875 ?_
    refine lv_aload_n hx hb dL_876 rfl (lv_at hl 3 rfl) ?_
    have hWo := gX_H (v0 := v) hW
    refine gh_S (As := [.ref (ka (jX J) 0), .int (xs (x4 + (1 : Int32)).toNatClampNeg), .int (xs (x4 + (2 : Int32)).toNatClampNeg), .int (xs (x4 + (3 : Int32)).toNatClampNeg), .ref (jq J)]) (mc' := cells + 5) (ms' := slots + 25) F hZ hN hWo (hL_grow hl9 h1 (Or.inr (Or.inr (Or.inr (Or.inl ⟨e1, rfl⟩))))) (gT_I q_6_33) rfl (hG _ q_6_31) (hG _ q_6_32) (hG _ q_1_0) hdX10_grow.2 ⟨(Nat.le_of_ble_eq_true rfl), (Nat.le_of_ble_eq_true rfl)⟩ rfl hl.1 rfl (Nat.le_of_ble_eq_true rfl) dL_877 ⟨by show cells + 5 ≤ 601024; omega, by show slots + 25 ≤ 7293000; omega⟩ rfl rfl (fun H locs hW => ?_)
    have hW := gH_X (J := J) (τ := τ) (v := (if o1.1 = 0 then vp_updL v 0 o1.2.1.toInt64 else v)) hW
    refine lv_istore (lv' := [(5, .int (3 : Int32)), (0, .ref b), (1, .ref (ka (jX J) 0)), (2, .ref (ka (jM J) 0)), (3, .ref (jq J)), (4, .int x4)]) hx hb dL_880 hl (by decide) rfl (fun ls hl => ?_)
    refine lv_aload_n hx hb dL_882 rfl (lv_at hl 3 rfl) ?_
    refine lv_aload_n hx hb dL_883 rfl (lv_at hl 1 rfl) ?_
    refine lv_iload hx hb dL_884 (lv_at hl 5 rfl) ?_
    refine lv_iconst (v := (1 : Int32)) hx hb dL_886 (by decide) ?_
    refine lv_iadd hx hb dL_887 ?_
    refine va_sld hx hb hX hbl hbA hW.2.2.2.1 (hin (1 : Int32) (by decide) (by decide)) dL_888 ?_
    refine lv_aload_n hx hb dL_889 rfl (lv_at hl 1 rfl) ?_
    refine lv_iload hx hb dL_890 (lv_at hl 5 rfl) ?_
    refine lv_iconst (v := (2 : Int32)) hx hb dL_892 (by decide) ?_
    refine lv_iadd hx hb dL_893 ?_
    refine va_sld hx hb hX hbl hbA hW.2.2.2.1 (hin (2 : Int32) (by decide) (by decide)) dL_894 ?_
    refine lv_aload_n hx hb dL_895 rfl (lv_at hl 1 rfl) ?_
    refine lv_iload hx hb dL_896 (lv_at hl 5 rfl) ?_
    refine lv_iconst (v := (3 : Int32)) hx hb dL_898 (by decide) ?_
    refine lv_iadd hx hb dL_899 ?_
    refine va_sld hx hb hX hbl hbA hW.2.2.2.1 (hin (3 : Int32) (by decide) (by decide)) dL_900 ?_
    have hW := toM hW
    refine gw_Vi (As := [.int (xs (x4 + (1 : Int32)).toNatClampNeg), .int (xs (x4 + (2 : Int32)).toNatClampNeg), .int (xs (x4 + (3 : Int32)).toNatClampNeg)]) (mc' := cells + 5) (ms' := slots + 25) F hW (mMX12_grow_0 h2) (cwV 3 hts (gT_V q_7_172 q_7_173 q_7_174 q_1_12 q_7_175) rfl rfl rfl hdX12_grow ⟨(Nat.le_of_ble_eq_true rfl), (Nat.le_of_ble_eq_true rfl)⟩) 0 10 (aM_0 _ _) rfl rfl hl.1 rfl (Nat.le_of_ble_eq_true rfl) dL_901 ⟨by show cells + 5 + 0 ≤ 601024; omega, by show slots + 25 + 0 ≤ 7293000; omega⟩ rfl rfl (fun H locs hW => ?_)
    have hW := toX hW
    refine lv_istore (lv' := [(6, .int o2.1), (5, .int (3 : Int32)), (0, .ref b), (1, .ref (ka (jX J) 0)), (2, .ref (ka (jM J) 0)), (3, .ref (jq J)), (4, .int x4)]) hx hb dL_904 hl (by decide) rfl (fun ls hl => ?_)
    refine lv_aload_n hx hb dL_906 rfl (lv_at hl 4 rfl) ?_
    have hW := toM hW
    refine gw_Vi (As := []) (mc' := cells + 5) (ms' := slots + 25) F hW (mMX12_thrown_0 (rfl : fMX12_thrown_0 (jn J) o2.2 = some (o2.2.1 0, o2.2))) (cwV 0 hts (gT_V q_6_214 q_6_215 q_6_216 q_1_12 q_6_217) rfl rfl rfl hdX12_thrown ⟨(Nat.le_of_ble_eq_true rfl), (Nat.le_of_ble_eq_true rfl)⟩) 0 10 (aM_0 _ _) rfl rfl hl.1 rfl (Nat.le_of_ble_eq_true rfl) dL_907 ⟨by show cells + 5 + 0 ≤ 601024; omega, by show slots + 25 + 0 ≤ 7293000; omega⟩ rfl rfl (fun H locs hW => ?_)
    have hW := toX hW
    refine lv_iload hx hb dL_910 (lv_at hl 1 rfl) ?_
    refine lv_icmp_eq (tgt := 917) hx hb dL_912 (by decide) (fun c912 => ?_) (fun c912 => absurd (e2) c912)
    refine lv_iload hx hb dL_917 (lv_at hl 1 rfl) ?_
    refine lv_if_ne (tgt := 934) hx hb dL_919 (by decide) (fun c919 => ?_) (fun c919 => absurd c919 ((by decide)))
    refine lv_goto (tgt := 1133) hx hb dL_934 (by decide) ?_
    exact W.widen (k := cells + 5) (n := slots + 25) (by omega) (by omega) (nxt _ _ ((if o1.1 = 0 then vp_updL v 0 o1.2.1.toInt64 else v)) H locs ls hI (lv_sub hl [2, 3, 4, 5, 6] rfl) hW)
  · refine lv_aload_n hx hb dL_857 rfl (lv_at hl 1 rfl) ?_
    refine lv_aload_n hx hb dL_858 rfl (lv_at hl 0 rfl) ?_
    refine lv_iload hx hb dL_859 (lv_at hl 4 rfl) ?_
    refine lv_iconst (v := (1 : Int32)) hx hb dL_861 (by decide) ?_
    refine lv_iadd hx hb dL_862 ?_
    refine va_sld hx hb hX hbl hbA hW.2.2.2.1 (hin (1 : Int32) (by decide) (by decide)) dL_863 ?_
    refine lv_aload_n hx hb dL_864 rfl (lv_at hl 0 rfl) ?_
    refine lv_iload hx hb dL_865 (lv_at hl 4 rfl) ?_
    refine lv_iconst (v := (2 : Int32)) hx hb dL_867 (by decide) ?_
    refine lv_iadd hx hb dL_868 ?_
    refine va_sld hx hb hX hbl hbA hW.2.2.2.1 (hin (2 : Int32) (by decide) (by decide)) dL_869 ?_
    refine lv_aload_n hx hb dL_870 rfl (lv_at hl 0 rfl) ?_
    refine lv_iload hx hb dL_871 (lv_at hl 4 rfl) ?_
    refine lv_iconst (v := (3 : Int32)) hx hb dL_873 (by decide) ?_
    refine lv_iadd hx hb dL_874 ?_
    refine va_sld hx hb hX hbl hbA hW.2.2.2.1 (hin (3 : Int32) (by decide) (by decide)) dL_875 ?_
    refine lv_aload_n hx hb dL_876 rfl (lv_at hl 3 rfl) ?_
    have hWo := gX_H (v0 := v) hW
    refine gh_S (As := [.ref (ka (jX J) 0), .int (xs (x4 + (1 : Int32)).toNatClampNeg), .int (xs (x4 + (2 : Int32)).toNatClampNeg), .int (xs (x4 + (3 : Int32)).toNatClampNeg), .ref (jq J)]) (mc' := cells + 5) (ms' := slots + 25) F hZ hN hWo (hL_grow hl9 h1 (Or.inr (Or.inr (Or.inr (Or.inr (⟨e1, rfl⟩)))))) (gT_I q_6_33) rfl (hG _ q_6_31) (hG _ q_6_32) (hG _ q_1_0) hdX10_grow.2 ⟨(Nat.le_of_ble_eq_true rfl), (Nat.le_of_ble_eq_true rfl)⟩ rfl hl.1 rfl (Nat.le_of_ble_eq_true rfl) dL_877 ⟨by show cells + 5 ≤ 601024; omega, by show slots + 25 ≤ 7293000; omega⟩ rfl rfl (fun H locs hW => ?_)
    have hW := gH_X (J := J) (τ := τ) (v := (if o1.1 = 0 then vp_updL v 0 o1.2.1.toInt64 else v)) hW
    refine lv_istore (lv' := [(5, .int (4 : Int32)), (0, .ref b), (1, .ref (ka (jX J) 0)), (2, .ref (ka (jM J) 0)), (3, .ref (jq J)), (4, .int x4)]) hx hb dL_880 hl (by decide) rfl (fun ls hl => ?_)
    refine lv_aload_n hx hb dL_882 rfl (lv_at hl 3 rfl) ?_
    refine lv_aload_n hx hb dL_883 rfl (lv_at hl 1 rfl) ?_
    refine lv_iload hx hb dL_884 (lv_at hl 5 rfl) ?_
    refine lv_iconst (v := (1 : Int32)) hx hb dL_886 (by decide) ?_
    refine lv_iadd hx hb dL_887 ?_
    refine va_sld hx hb hX hbl hbA hW.2.2.2.1 (hin (1 : Int32) (by decide) (by decide)) dL_888 ?_
    refine lv_aload_n hx hb dL_889 rfl (lv_at hl 1 rfl) ?_
    refine lv_iload hx hb dL_890 (lv_at hl 5 rfl) ?_
    refine lv_iconst (v := (2 : Int32)) hx hb dL_892 (by decide) ?_
    refine lv_iadd hx hb dL_893 ?_
    refine va_sld hx hb hX hbl hbA hW.2.2.2.1 (hin (2 : Int32) (by decide) (by decide)) dL_894 ?_
    refine lv_aload_n hx hb dL_895 rfl (lv_at hl 1 rfl) ?_
    refine lv_iload hx hb dL_896 (lv_at hl 5 rfl) ?_
    refine lv_iconst (v := (3 : Int32)) hx hb dL_898 (by decide) ?_
    refine lv_iadd hx hb dL_899 ?_
    refine va_sld hx hb hX hbl hbA hW.2.2.2.1 (hin (3 : Int32) (by decide) (by decide)) dL_900 ?_
    have hW := toM hW
    refine gw_Vi (As := [.int (xs (x4 + (1 : Int32)).toNatClampNeg), .int (xs (x4 + (2 : Int32)).toNatClampNeg), .int (xs (x4 + (3 : Int32)).toNatClampNeg)]) (mc' := cells + 5) (ms' := slots + 25) F hW (mMX12_grow_0 h2) (cwV 3 hts (gT_V q_7_172 q_7_173 q_7_174 q_1_12 q_7_175) rfl rfl rfl hdX12_grow ⟨(Nat.le_of_ble_eq_true rfl), (Nat.le_of_ble_eq_true rfl)⟩) 0 10 (aM_0 _ _) rfl rfl hl.1 rfl (Nat.le_of_ble_eq_true rfl) dL_901 ⟨by show cells + 5 + 0 ≤ 601024; omega, by show slots + 25 + 0 ≤ 7293000; omega⟩ rfl rfl (fun H locs hW => ?_)
    have hW := toX hW
    refine lv_istore (lv' := [(6, .int o2.1), (5, .int (4 : Int32)), (0, .ref b), (1, .ref (ka (jX J) 0)), (2, .ref (ka (jM J) 0)), (3, .ref (jq J)), (4, .int x4)]) hx hb dL_904 hl (by decide) rfl (fun ls hl => ?_)
    refine lv_aload_n hx hb dL_906 rfl (lv_at hl 4 rfl) ?_
    have hW := toM hW
    refine gw_Vi (As := []) (mc' := cells + 5) (ms' := slots + 25) F hW (mMX12_thrown_0 (rfl : fMX12_thrown_0 (jn J) o2.2 = some (o2.2.1 0, o2.2))) (cwV 0 hts (gT_V q_6_214 q_6_215 q_6_216 q_1_12 q_6_217) rfl rfl rfl hdX12_thrown ⟨(Nat.le_of_ble_eq_true rfl), (Nat.le_of_ble_eq_true rfl)⟩) 0 10 (aM_0 _ _) rfl rfl hl.1 rfl (Nat.le_of_ble_eq_true rfl) dL_907 ⟨by show cells + 5 + 0 ≤ 601024; omega, by show slots + 25 + 0 ≤ 7293000; omega⟩ rfl rfl (fun H locs hW => ?_)
    have hW := toX hW
    refine lv_iload hx hb dL_910 (lv_at hl 1 rfl) ?_
    refine lv_icmp_eq (tgt := 917) hx hb dL_912 (by decide) (fun c912 => ?_) (fun c912 => absurd (e2) c912)
    refine lv_iload hx hb dL_917 (lv_at hl 1 rfl) ?_
    refine lv_if_ne (tgt := 934) hx hb dL_919 (by decide) (fun c919 => ?_) (fun c919 => absurd c919 ((by decide)))
    refine lv_goto (tgt := 1133) hx hb dL_934 (by decide) ?_
    exact W.widen (k := cells + 5) (n := slots + 25) (by omega) (by omega) (nxt _ _ ((if o1.1 = 0 then vp_updL v 0 o1.2.1.toInt64 else v)) H locs ls hI (lv_sub hl [2, 3, 4, 5, 6] rfl) hW)
set_option maxHeartbeats 4000000 in
set_option maxRecDepth 100000 in
theorem lc_cut {p : Program} {l : Launch} {e : Env} {s : State} {m : MethodId} {below : List Frame} {meth : Method} {c : Code} {b L : Nat} {xs : Nat → Int32} {J : LJ} {Inv : XS → XS → Prop} (F : fx_ p s m #[Value.ref b] meth c code 8 ret "InodeDeskLaw" (Cond.initialized "InodeDeskLaw" :: gT)) (hl9 : l.stackTraces = false) (hZ : xz_ (fun q : Nat => s.heap.size ≤ q) s) (hN : xn_ s) (hX : va_X b L xs s s.heap) (hbl : b < s.heap.size) (St : St_all (jn J) Inv) {x4 : Int32} {cells slots : Nat} (hcc : cells + 5 ≤ 601024) (hss : slots + 25 ≤ 7293000) (hin : ∀ k : Int32, 0 ≤ k → k < 6 → vp_in (x4 + k) L) (nxt : lw_next p l e s m below meth c b J Inv x4 cells slots) (σ τ : XS) (v : Nat → Int64) (hI : Inv σ τ) (H : Heap) (locs : List Loc) (ls : Array Slot) (hl : lv_has ls 8 [(0, .ref b), (1, .ref (ka (jX J) 0)), (2, .ref (ka (jM J) 0)), (3, .ref (jq J)), (4, .int x4)]) (hW : gw_ (kD (KC J τ v)) vwCl (tyX (KC J τ v)) (wX (KC J τ v)) (fun q : Nat => s.heap.size ≤ q) s σ H locs) : W p l e room_1 s m #[Value.ref b] below meth c H locs cells slots (lw_Z below #[Value.ref b] s) (F0 m 937 ls []) := by
  have hx := F.1
  have hb := F.2.1
  have hml := F.2.2.2.1
  have hown := F.2.2.2.2.1
  have hts := F.2.2.2.2.2.1
  have hG : ∀ x ∈ gT, x.before _ s = true := fun x h => hts x (List.mem_cons_of_mem _ h)
  have hbA : ¬ (fun q : Nat => s.heap.size ≤ q) b := Nat.not_le.mpr hbl
  obtain ⟨o1, o2, h1, h2, hI, hc⟩ := (St.2.2.2.2.2.2.2.2.2.2.2.2.2.2.2.1) σ τ (xs (x4 + (1 : Int32)).toNatClampNeg) (xs (x4 + (2 : Int32)).toNatClampNeg) hI
  rcases hc with ⟨e1, e2, e3⟩ | ⟨e1, e2⟩ | ⟨e1, e2⟩ | ⟨e1, e2⟩
  · refine lv_aload_n hx hb dL_937 rfl (lv_at hl 1 rfl) ?_
    refine lv_aload_n hx hb dL_938 rfl (lv_at hl 0 rfl) ?_
    refine lv_iload hx hb dL_939 (lv_at hl 4 rfl) ?_
    refine lv_iconst (v := (1 : Int32)) hx hb dL_941 (by decide) ?_
    refine lv_iadd hx hb dL_942 ?_
    refine va_sld hx hb hX hbl hbA hW.2.2.2.1 (hin (1 : Int32) (by decide) (by decide)) dL_943 ?_
    refine lv_aload_n hx hb dL_944 rfl (lv_at hl 0 rfl) ?_
    refine lv_iload hx hb dL_945 (lv_at hl 4 rfl) ?_
    refine lv_iconst (v := (2 : Int32)) hx hb dL_947 (by decide) ?_
    refine lv_iadd hx hb dL_948 ?_
    refine va_sld hx hb hX hbl hbA hW.2.2.2.1 (hin (2 : Int32) (by decide) (by decide)) dL_949 ?_
    refine lv_aload_n hx hb dL_950 rfl (lv_at hl 3 rfl) ?_
    have hWo := gX_H (v0 := v) hW
    refine gh_S (As := [.ref (ka (jX J) 0), .int (xs (x4 + (1 : Int32)).toNatClampNeg), .int (xs (x4 + (2 : Int32)).toNatClampNeg), .ref (jq J)]) (mc' := cells + 4) (ms' := slots + 24) F hZ hN hWo (hL_cut hl9 h1 (Or.inl ⟨e1, rfl⟩)) (gT_I q_6_52) rfl (hG _ q_6_50) (hG _ q_6_51) (hG _ q_1_0) hdX10_cut.2 ⟨(Nat.le_of_ble_eq_true rfl), (Nat.le_of_ble_eq_true rfl)⟩ rfl hl.1 rfl (Nat.le_of_ble_eq_true rfl) dL_951 ⟨by show cells + 4 ≤ 601024; omega, by show slots + 24 ≤ 7293000; omega⟩ rfl rfl (fun H locs hW => ?_)
    have hW := gH_X (J := J) (τ := τ) (v := (if o1.1 = 0 then vp_updL v 0 o1.2.1.toInt64 else v)) hW
    refine lv_istore (lv' := [(5, .int (0 : Int32)), (0, .ref b), (1, .ref (ka (jX J) 0)), (2, .ref (ka (jM J) 0)), (3, .ref (jq J)), (4, .int x4)]) hx hb dL_954 hl (by decide) rfl (fun ls hl => ?_)
    refine lv_aload_n hx hb dL_956 rfl (lv_at hl 3 rfl) ?_
    refine lv_aload_n hx hb dL_957 rfl (lv_at hl 1 rfl) ?_
    refine lv_iload hx hb dL_958 (lv_at hl 5 rfl) ?_
    refine lv_iconst (v := (1 : Int32)) hx hb dL_960 (by decide) ?_
    refine lv_iadd hx hb dL_961 ?_
    refine va_sld hx hb hX hbl hbA hW.2.2.2.1 (hin (1 : Int32) (by decide) (by decide)) dL_962 ?_
    refine lv_aload_n hx hb dL_963 rfl (lv_at hl 1 rfl) ?_
    refine lv_iload hx hb dL_964 (lv_at hl 5 rfl) ?_
    refine lv_iconst (v := (2 : Int32)) hx hb dL_966 (by decide) ?_
    refine lv_iadd hx hb dL_967 ?_
    refine va_sld hx hb hX hbl hbA hW.2.2.2.1 (hin (2 : Int32) (by decide) (by decide)) dL_968 ?_
    have hW := toM hW
    refine gw_Vi (As := [.int (xs (x4 + (1 : Int32)).toNatClampNeg), .int (xs (x4 + (2 : Int32)).toNatClampNeg)]) (mc' := cells + 4) (ms' := slots + 24) F hW (mMX12_cut_0 h2) (cwV 2 hts (gT_V q_7_177 q_7_178 q_7_179 q_1_12 q_7_180) rfl rfl rfl hdX12_cut ⟨(Nat.le_of_ble_eq_true rfl), (Nat.le_of_ble_eq_true rfl)⟩) 0 10 (aM_0 _ _) rfl rfl hl.1 rfl (Nat.le_of_ble_eq_true rfl) dL_969 ⟨by show cells + 4 + 0 ≤ 601024; omega, by show slots + 24 + 0 ≤ 7293000; omega⟩ rfl rfl (fun H locs hW => ?_)
    have hW := toX hW
    refine lv_istore (lv' := [(6, .int o2.1), (5, .int (0 : Int32)), (0, .ref b), (1, .ref (ka (jX J) 0)), (2, .ref (ka (jM J) 0)), (3, .ref (jq J)), (4, .int x4)]) hx hb dL_972 hl (by decide) rfl (fun ls hl => ?_)
    refine lv_aload_n hx hb dL_974 rfl (lv_at hl 4 rfl) ?_
    have hW := toM hW
    refine gw_Vi (As := []) (mc' := cells + 4) (ms' := slots + 24) F hW (mMX12_thrown_0 (rfl : fMX12_thrown_0 (jn J) o2.2 = some (o2.2.1 0, o2.2))) (cwV 0 hts (gT_V q_6_214 q_6_215 q_6_216 q_1_12 q_6_217) rfl rfl rfl hdX12_thrown ⟨(Nat.le_of_ble_eq_true rfl), (Nat.le_of_ble_eq_true rfl)⟩) 0 10 (aM_0 _ _) rfl rfl hl.1 rfl (Nat.le_of_ble_eq_true rfl) dL_975 ⟨by show cells + 4 + 0 ≤ 601024; omega, by show slots + 24 + 0 ≤ 7293000; omega⟩ rfl rfl (fun H locs hW => ?_)
    have hW := toX hW
    refine lv_iload hx hb dL_978 (lv_at hl 1 rfl) ?_
    refine lv_icmp_eq (tgt := 985) hx hb dL_980 (by decide) (fun c980 => ?_) (fun c980 => absurd (e2) c980)
    refine lv_iload hx hb dL_985 (lv_at hl 1 rfl) ?_
    refine lv_if_ne (tgt := 1002) hx hb dL_987 (by decide) (fun c987 => absurd (rfl) c987) (fun c987 => ?_)
    refine lv_aload_n hx hb dL_990 rfl (lv_at hl 5 rfl) ?_
    refine lv_iconst (v := (0 : Int32)) hx hb dL_991 (by decide) ?_
    have hWo := gX_H (v0 := (if o1.1 = 0 then vp_updL v 0 o1.2.1.toInt64 else v)) hW
    refine gw_lald F hWo 19 8 (aH_o _ _ _) rfl (by decide) dL_992 ?_
    refine lv_iload hx hb dL_993 (lv_at hl 0 rfl) ?_
    refine lv_i2l (v := o2.1.toInt64) hx hb dL_995 rfl ?_
    refine W.lcmp hx hb dL_996 ?_
    refine lv_if_eq (tgt := 1002) hx hb dL_997 (by decide) (fun c997 => ?_) (fun c997 => absurd (law_eq e1 (congrArg Int32.toInt64 e3)) c997)
    refine lv_goto (tgt := 1133) hx hb dL_1002 (by decide) ?_
    exact W.widen (k := cells + 5) (n := slots + 25) (by omega) (by omega) (nxt _ _ ((if o1.1 = 0 then vp_updL v 0 o1.2.1.toInt64 else v)) H locs ls hI (lv_sub hl [2, 3, 4, 5, 6] rfl) hW)
  · refine lv_aload_n hx hb dL_937 rfl (lv_at hl 1 rfl) ?_
    refine lv_aload_n hx hb dL_938 rfl (lv_at hl 0 rfl) ?_
    refine lv_iload hx hb dL_939 (lv_at hl 4 rfl) ?_
    refine lv_iconst (v := (1 : Int32)) hx hb dL_941 (by decide) ?_
    refine lv_iadd hx hb dL_942 ?_
    refine va_sld hx hb hX hbl hbA hW.2.2.2.1 (hin (1 : Int32) (by decide) (by decide)) dL_943 ?_
    refine lv_aload_n hx hb dL_944 rfl (lv_at hl 0 rfl) ?_
    refine lv_iload hx hb dL_945 (lv_at hl 4 rfl) ?_
    refine lv_iconst (v := (2 : Int32)) hx hb dL_947 (by decide) ?_
    refine lv_iadd hx hb dL_948 ?_
    refine va_sld hx hb hX hbl hbA hW.2.2.2.1 (hin (2 : Int32) (by decide) (by decide)) dL_949 ?_
    refine lv_aload_n hx hb dL_950 rfl (lv_at hl 3 rfl) ?_
    have hWo := gX_H (v0 := v) hW
    refine gh_S (As := [.ref (ka (jX J) 0), .int (xs (x4 + (1 : Int32)).toNatClampNeg), .int (xs (x4 + (2 : Int32)).toNatClampNeg), .ref (jq J)]) (mc' := cells + 4) (ms' := slots + 24) F hZ hN hWo (hL_cut hl9 h1 (Or.inr (Or.inl ⟨e1, rfl⟩))) (gT_I q_6_52) rfl (hG _ q_6_50) (hG _ q_6_51) (hG _ q_1_0) hdX10_cut.2 ⟨(Nat.le_of_ble_eq_true rfl), (Nat.le_of_ble_eq_true rfl)⟩ rfl hl.1 rfl (Nat.le_of_ble_eq_true rfl) dL_951 ⟨by show cells + 4 ≤ 601024; omega, by show slots + 24 ≤ 7293000; omega⟩ rfl rfl (fun H locs hW => ?_)
    have hW := gH_X (J := J) (τ := τ) (v := (if o1.1 = 0 then vp_updL v 0 o1.2.1.toInt64 else v)) hW
    refine lv_istore (lv' := [(5, .int (1 : Int32)), (0, .ref b), (1, .ref (ka (jX J) 0)), (2, .ref (ka (jM J) 0)), (3, .ref (jq J)), (4, .int x4)]) hx hb dL_954 hl (by decide) rfl (fun ls hl => ?_)
    refine lv_aload_n hx hb dL_956 rfl (lv_at hl 3 rfl) ?_
    refine lv_aload_n hx hb dL_957 rfl (lv_at hl 1 rfl) ?_
    refine lv_iload hx hb dL_958 (lv_at hl 5 rfl) ?_
    refine lv_iconst (v := (1 : Int32)) hx hb dL_960 (by decide) ?_
    refine lv_iadd hx hb dL_961 ?_
    refine va_sld hx hb hX hbl hbA hW.2.2.2.1 (hin (1 : Int32) (by decide) (by decide)) dL_962 ?_
    refine lv_aload_n hx hb dL_963 rfl (lv_at hl 1 rfl) ?_
    refine lv_iload hx hb dL_964 (lv_at hl 5 rfl) ?_
    refine lv_iconst (v := (2 : Int32)) hx hb dL_966 (by decide) ?_
    refine lv_iadd hx hb dL_967 ?_
    refine va_sld hx hb hX hbl hbA hW.2.2.2.1 (hin (2 : Int32) (by decide) (by decide)) dL_968 ?_
    have hW := toM hW
    refine gw_Vi (As := [.int (xs (x4 + (1 : Int32)).toNatClampNeg), .int (xs (x4 + (2 : Int32)).toNatClampNeg)]) (mc' := cells + 4) (ms' := slots + 24) F hW (mMX12_cut_0 h2) (cwV 2 hts (gT_V q_7_177 q_7_178 q_7_179 q_1_12 q_7_180) rfl rfl rfl hdX12_cut ⟨(Nat.le_of_ble_eq_true rfl), (Nat.le_of_ble_eq_true rfl)⟩) 0 10 (aM_0 _ _) rfl rfl hl.1 rfl (Nat.le_of_ble_eq_true rfl) dL_969 ⟨by show cells + 4 + 0 ≤ 601024; omega, by show slots + 24 + 0 ≤ 7293000; omega⟩ rfl rfl (fun H locs hW => ?_)
    have hW := toX hW
    refine lv_istore (lv' := [(6, .int o2.1), (5, .int (1 : Int32)), (0, .ref b), (1, .ref (ka (jX J) 0)), (2, .ref (ka (jM J) 0)), (3, .ref (jq J)), (4, .int x4)]) hx hb dL_972 hl (by decide) rfl (fun ls hl => ?_)
    refine lv_aload_n hx hb dL_974 rfl (lv_at hl 4 rfl) ?_
    have hW := toM hW
    refine gw_Vi (As := []) (mc' := cells + 4) (ms' := slots + 24) F hW (mMX12_thrown_0 (rfl : fMX12_thrown_0 (jn J) o2.2 = some (o2.2.1 0, o2.2))) (cwV 0 hts (gT_V q_6_214 q_6_215 q_6_216 q_1_12 q_6_217) rfl rfl rfl hdX12_thrown ⟨(Nat.le_of_ble_eq_true rfl), (Nat.le_of_ble_eq_true rfl)⟩) 0 10 (aM_0 _ _) rfl rfl hl.1 rfl (Nat.le_of_ble_eq_true rfl) dL_975 ⟨by show cells + 4 + 0 ≤ 601024; omega, by show slots + 24 + 0 ≤ 7293000; omega⟩ rfl rfl (fun H locs hW => ?_)
    have hW := toX hW
    refine lv_iload hx hb dL_978 (lv_at hl 1 rfl) ?_
    refine lv_icmp_eq (tgt := 985) hx hb dL_980 (by decide) (fun c980 => ?_) (fun c980 => absurd (e2) c980)
    refine lv_iload hx hb dL_985 (lv_at hl 1 rfl) ?_
    refine lv_if_ne (tgt := 1002) hx hb dL_987 (by decide) (fun c987 => ?_) (fun c987 => absurd c987 ((by decide)))
    refine lv_goto (tgt := 1133) hx hb dL_1002 (by decide) ?_
    exact W.widen (k := cells + 5) (n := slots + 25) (by omega) (by omega) (nxt _ _ ((if o1.1 = 0 then vp_updL v 0 o1.2.1.toInt64 else v)) H locs ls hI (lv_sub hl [2, 3, 4, 5, 6] rfl) hW)
  · refine lv_aload_n hx hb dL_937 rfl (lv_at hl 1 rfl) ?_
    refine lv_aload_n hx hb dL_938 rfl (lv_at hl 0 rfl) ?_
    refine lv_iload hx hb dL_939 (lv_at hl 4 rfl) ?_
    refine lv_iconst (v := (1 : Int32)) hx hb dL_941 (by decide) ?_
    refine lv_iadd hx hb dL_942 ?_
    refine va_sld hx hb hX hbl hbA hW.2.2.2.1 (hin (1 : Int32) (by decide) (by decide)) dL_943 ?_
    refine lv_aload_n hx hb dL_944 rfl (lv_at hl 0 rfl) ?_
    refine lv_iload hx hb dL_945 (lv_at hl 4 rfl) ?_
    refine lv_iconst (v := (2 : Int32)) hx hb dL_947 (by decide) ?_
    refine lv_iadd hx hb dL_948 ?_
    refine va_sld hx hb hX hbl hbA hW.2.2.2.1 (hin (2 : Int32) (by decide) (by decide)) dL_949 ?_
    refine lv_aload_n hx hb dL_950 rfl (lv_at hl 3 rfl) ?_
    have hWo := gX_H (v0 := v) hW
    refine gh_S (As := [.ref (ka (jX J) 0), .int (xs (x4 + (1 : Int32)).toNatClampNeg), .int (xs (x4 + (2 : Int32)).toNatClampNeg), .ref (jq J)]) (mc' := cells + 4) (ms' := slots + 24) F hZ hN hWo (hL_cut hl9 h1 (Or.inr (Or.inr (Or.inl ⟨e1, rfl⟩)))) (gT_I q_6_52) rfl (hG _ q_6_50) (hG _ q_6_51) (hG _ q_1_0) hdX10_cut.2 ⟨(Nat.le_of_ble_eq_true rfl), (Nat.le_of_ble_eq_true rfl)⟩ rfl hl.1 rfl (Nat.le_of_ble_eq_true rfl) dL_951 ⟨by show cells + 4 ≤ 601024; omega, by show slots + 24 ≤ 7293000; omega⟩ rfl rfl (fun H locs hW => ?_)
    have hW := gH_X (J := J) (τ := τ) (v := (if o1.1 = 0 then vp_updL v 0 o1.2.1.toInt64 else v)) hW
    refine lv_istore (lv' := [(5, .int (2 : Int32)), (0, .ref b), (1, .ref (ka (jX J) 0)), (2, .ref (ka (jM J) 0)), (3, .ref (jq J)), (4, .int x4)]) hx hb dL_954 hl (by decide) rfl (fun ls hl => ?_)
    refine lv_aload_n hx hb dL_956 rfl (lv_at hl 3 rfl) ?_
    refine lv_aload_n hx hb dL_957 rfl (lv_at hl 1 rfl) ?_
    refine lv_iload hx hb dL_958 (lv_at hl 5 rfl) ?_
    refine lv_iconst (v := (1 : Int32)) hx hb dL_960 (by decide) ?_
    refine lv_iadd hx hb dL_961 ?_
    refine va_sld hx hb hX hbl hbA hW.2.2.2.1 (hin (1 : Int32) (by decide) (by decide)) dL_962 ?_
    refine lv_aload_n hx hb dL_963 rfl (lv_at hl 1 rfl) ?_
    refine lv_iload hx hb dL_964 (lv_at hl 5 rfl) ?_
    refine lv_iconst (v := (2 : Int32)) hx hb dL_966 (by decide) ?_
    refine lv_iadd hx hb dL_967 ?_
    refine va_sld hx hb hX hbl hbA hW.2.2.2.1 (hin (2 : Int32) (by decide) (by decide)) dL_968 ?_
    have hW := toM hW
    refine gw_Vi (As := [.int (xs (x4 + (1 : Int32)).toNatClampNeg), .int (xs (x4 + (2 : Int32)).toNatClampNeg)]) (mc' := cells + 4) (ms' := slots + 24) F hW (mMX12_cut_0 h2) (cwV 2 hts (gT_V q_7_177 q_7_178 q_7_179 q_1_12 q_7_180) rfl rfl rfl hdX12_cut ⟨(Nat.le_of_ble_eq_true rfl), (Nat.le_of_ble_eq_true rfl)⟩) 0 10 (aM_0 _ _) rfl rfl hl.1 rfl (Nat.le_of_ble_eq_true rfl) dL_969 ⟨by show cells + 4 + 0 ≤ 601024; omega, by show slots + 24 + 0 ≤ 7293000; omega⟩ rfl rfl (fun H locs hW => ?_)
    have hW := toX hW
    refine lv_istore (lv' := [(6, .int o2.1), (5, .int (2 : Int32)), (0, .ref b), (1, .ref (ka (jX J) 0)), (2, .ref (ka (jM J) 0)), (3, .ref (jq J)), (4, .int x4)]) hx hb dL_972 hl (by decide) rfl (fun ls hl => ?_)
    refine lv_aload_n hx hb dL_974 rfl (lv_at hl 4 rfl) ?_
    have hW := toM hW
    refine gw_Vi (As := []) (mc' := cells + 4) (ms' := slots + 24) F hW (mMX12_thrown_0 (rfl : fMX12_thrown_0 (jn J) o2.2 = some (o2.2.1 0, o2.2))) (cwV 0 hts (gT_V q_6_214 q_6_215 q_6_216 q_1_12 q_6_217) rfl rfl rfl hdX12_thrown ⟨(Nat.le_of_ble_eq_true rfl), (Nat.le_of_ble_eq_true rfl)⟩) 0 10 (aM_0 _ _) rfl rfl hl.1 rfl (Nat.le_of_ble_eq_true rfl) dL_975 ⟨by show cells + 4 + 0 ≤ 601024; omega, by show slots + 24 + 0 ≤ 7293000; omega⟩ rfl rfl (fun H locs hW => ?_)
    have hW := toX hW
    refine lv_iload hx hb dL_978 (lv_at hl 1 rfl) ?_
    refine lv_icmp_eq (tgt := 985) hx hb dL_980 (by decide) (fun c980 => ?_) (fun c980 => absurd (e2) c980)
    refine lv_iload hx hb dL_985 (lv_at hl 1 rfl) ?_
    refine lv_if_ne (tgt := 1002) hx hb dL_987 (by decide) (fun c987 => ?_) (fun c987 => absurd c987 ((by decide)))
    refine lv_goto (tgt := 1133) hx hb dL_1002 (by decide) ?_
    exact W.widen (k := cells + 5) (n := slots + 25) (by omega) (by omega) (nxt _ _ ((if o1.1 = 0 then vp_updL v 0 o1.2.1.toInt64 else v)) H locs ls hI (lv_sub hl [2, 3, 4, 5, 6] rfl) hW)
  · refine lv_aload_n hx hb dL_937 rfl (lv_at hl 1 rfl) ?_
    refine lv_aload_n hx hb dL_938 rfl (lv_at hl 0 rfl) ?_
    refine lv_iload hx hb dL_939 (lv_at hl 4 rfl) ?_
    refine lv_iconst (v := (1 : Int32)) hx hb dL_941 (by decide) ?_
    refine lv_iadd hx hb dL_942 ?_
    refine va_sld hx hb hX hbl hbA hW.2.2.2.1 (hin (1 : Int32) (by decide) (by decide)) dL_943 ?_
    refine lv_aload_n hx hb dL_944 rfl (lv_at hl 0 rfl) ?_
    refine lv_iload hx hb dL_945 (lv_at hl 4 rfl) ?_
    refine lv_iconst (v := (2 : Int32)) hx hb dL_947 (by decide) ?_
    refine lv_iadd hx hb dL_948 ?_
    refine va_sld hx hb hX hbl hbA hW.2.2.2.1 (hin (2 : Int32) (by decide) (by decide)) dL_949 ?_
    refine lv_aload_n hx hb dL_950 rfl (lv_at hl 3 rfl) ?_
    have hWo := gX_H (v0 := v) hW
    refine gh_S (As := [.ref (ka (jX J) 0), .int (xs (x4 + (1 : Int32)).toNatClampNeg), .int (xs (x4 + (2 : Int32)).toNatClampNeg), .ref (jq J)]) (mc' := cells + 4) (ms' := slots + 24) F hZ hN hWo (hL_cut hl9 h1 (Or.inr (Or.inr (Or.inr (⟨e1, rfl⟩))))) (gT_I q_6_52) rfl (hG _ q_6_50) (hG _ q_6_51) (hG _ q_1_0) hdX10_cut.2 ⟨(Nat.le_of_ble_eq_true rfl), (Nat.le_of_ble_eq_true rfl)⟩ rfl hl.1 rfl (Nat.le_of_ble_eq_true rfl) dL_951 ⟨by show cells + 4 ≤ 601024; omega, by show slots + 24 ≤ 7293000; omega⟩ rfl rfl (fun H locs hW => ?_)
    have hW := gH_X (J := J) (τ := τ) (v := (if o1.1 = 0 then vp_updL v 0 o1.2.1.toInt64 else v)) hW
    refine lv_istore (lv' := [(5, .int (3 : Int32)), (0, .ref b), (1, .ref (ka (jX J) 0)), (2, .ref (ka (jM J) 0)), (3, .ref (jq J)), (4, .int x4)]) hx hb dL_954 hl (by decide) rfl (fun ls hl => ?_)
    refine lv_aload_n hx hb dL_956 rfl (lv_at hl 3 rfl) ?_
    refine lv_aload_n hx hb dL_957 rfl (lv_at hl 1 rfl) ?_
    refine lv_iload hx hb dL_958 (lv_at hl 5 rfl) ?_
    refine lv_iconst (v := (1 : Int32)) hx hb dL_960 (by decide) ?_
    refine lv_iadd hx hb dL_961 ?_
    refine va_sld hx hb hX hbl hbA hW.2.2.2.1 (hin (1 : Int32) (by decide) (by decide)) dL_962 ?_
    refine lv_aload_n hx hb dL_963 rfl (lv_at hl 1 rfl) ?_
    refine lv_iload hx hb dL_964 (lv_at hl 5 rfl) ?_
    refine lv_iconst (v := (2 : Int32)) hx hb dL_966 (by decide) ?_
    refine lv_iadd hx hb dL_967 ?_
    refine va_sld hx hb hX hbl hbA hW.2.2.2.1 (hin (2 : Int32) (by decide) (by decide)) dL_968 ?_
    have hW := toM hW
    refine gw_Vi (As := [.int (xs (x4 + (1 : Int32)).toNatClampNeg), .int (xs (x4 + (2 : Int32)).toNatClampNeg)]) (mc' := cells + 4) (ms' := slots + 24) F hW (mMX12_cut_0 h2) (cwV 2 hts (gT_V q_7_177 q_7_178 q_7_179 q_1_12 q_7_180) rfl rfl rfl hdX12_cut ⟨(Nat.le_of_ble_eq_true rfl), (Nat.le_of_ble_eq_true rfl)⟩) 0 10 (aM_0 _ _) rfl rfl hl.1 rfl (Nat.le_of_ble_eq_true rfl) dL_969 ⟨by show cells + 4 + 0 ≤ 601024; omega, by show slots + 24 + 0 ≤ 7293000; omega⟩ rfl rfl (fun H locs hW => ?_)
    have hW := toX hW
    refine lv_istore (lv' := [(6, .int o2.1), (5, .int (3 : Int32)), (0, .ref b), (1, .ref (ka (jX J) 0)), (2, .ref (ka (jM J) 0)), (3, .ref (jq J)), (4, .int x4)]) hx hb dL_972 hl (by decide) rfl (fun ls hl => ?_)
    refine lv_aload_n hx hb dL_974 rfl (lv_at hl 4 rfl) ?_
    have hW := toM hW
    refine gw_Vi (As := []) (mc' := cells + 4) (ms' := slots + 24) F hW (mMX12_thrown_0 (rfl : fMX12_thrown_0 (jn J) o2.2 = some (o2.2.1 0, o2.2))) (cwV 0 hts (gT_V q_6_214 q_6_215 q_6_216 q_1_12 q_6_217) rfl rfl rfl hdX12_thrown ⟨(Nat.le_of_ble_eq_true rfl), (Nat.le_of_ble_eq_true rfl)⟩) 0 10 (aM_0 _ _) rfl rfl hl.1 rfl (Nat.le_of_ble_eq_true rfl) dL_975 ⟨by show cells + 4 + 0 ≤ 601024; omega, by show slots + 24 + 0 ≤ 7293000; omega⟩ rfl rfl (fun H locs hW => ?_)
    have hW := toX hW
    refine lv_iload hx hb dL_978 (lv_at hl 1 rfl) ?_
    refine lv_icmp_eq (tgt := 985) hx hb dL_980 (by decide) (fun c980 => ?_) (fun c980 => absurd (e2) c980)
    refine lv_iload hx hb dL_985 (lv_at hl 1 rfl) ?_
    refine lv_if_ne (tgt := 1002) hx hb dL_987 (by decide) (fun c987 => ?_) (fun c987 => absurd c987 ((by decide)))
    refine lv_goto (tgt := 1133) hx hb dL_1002 (by decide) ?_
    exact W.widen (k := cells + 5) (n := slots + 25) (by omega) (by omega) (nxt _ _ ((if o1.1 = 0 then vp_updL v 0 o1.2.1.toInt64 else v)) H locs ls hI (lv_sub hl [2, 3, 4, 5, 6] rfl) hW)
set_option maxHeartbeats 4000000 in
set_option maxRecDepth 100000 in
theorem lc_remove {p : Program} {l : Launch} {e : Env} {s : State} {m : MethodId} {below : List Frame} {meth : Method} {c : Code} {b L : Nat} {xs : Nat → Int32} {J : LJ} {Inv : XS → XS → Prop} (F : fx_ p s m #[Value.ref b] meth c code 8 ret "InodeDeskLaw" (Cond.initialized "InodeDeskLaw" :: gT)) (hl9 : l.stackTraces = false) (hZ : xz_ (fun q : Nat => s.heap.size ≤ q) s) (hN : xn_ s) (hX : va_X b L xs s s.heap) (hbl : b < s.heap.size) (St : St_all (jn J) Inv) {x4 : Int32} {cells slots : Nat} (hcc : cells + 5 ≤ 601024) (hss : slots + 25 ≤ 7293000) (hin : ∀ k : Int32, 0 ≤ k → k < 6 → vp_in (x4 + k) L) (nxt : lw_next p l e s m below meth c b J Inv x4 cells slots) (σ τ : XS) (v : Nat → Int64) (hI : Inv σ τ) (H : Heap) (locs : List Loc) (ls : Array Slot) (hl : lv_has ls 8 [(0, .ref b), (1, .ref (ka (jX J) 0)), (2, .ref (ka (jM J) 0)), (3, .ref (jq J)), (4, .int x4)]) (hW : gw_ (kD (KC J τ v)) vwCl (tyX (KC J τ v)) (wX (KC J τ v)) (fun q : Nat => s.heap.size ≤ q) s σ H locs) : W p l e room_1 s m #[Value.ref b] below meth c H locs cells slots (lw_Z below #[Value.ref b] s) (F0 m 1005 ls []) := by
  have hx := F.1
  have hb := F.2.1
  have hml := F.2.2.2.1
  have hown := F.2.2.2.2.1
  have hts := F.2.2.2.2.2.1
  have hG : ∀ x ∈ gT, x.before _ s = true := fun x h => hts x (List.mem_cons_of_mem _ h)
  have hbA : ¬ (fun q : Nat => s.heap.size ≤ q) b := Nat.not_le.mpr hbl
  obtain ⟨o1, o2, h1, h2, hI, hc⟩ := (St.2.2.2.2.2.2.2.2.2.2.2.2.2.2.2.2.1) σ τ (xs (x4 + (1 : Int32)).toNatClampNeg) hI
  rcases hc with ⟨e1, e2⟩ | ⟨e1, e2⟩ | ⟨e1, e2⟩ | ⟨e1, e2⟩
  · refine lv_aload_n hx hb dL_1005 rfl (lv_at hl 1 rfl) ?_
    refine lv_aload_n hx hb dL_1006 rfl (lv_at hl 0 rfl) ?_
    refine lv_iload hx hb dL_1007 (lv_at hl 4 rfl) ?_
    refine lv_iconst (v := (1 : Int32)) hx hb dL_1009 (by decide) ?_
    refine lv_iadd hx hb dL_1010 ?_
    refine va_sld hx hb hX hbl hbA hW.2.2.2.1 (hin (1 : Int32) (by decide) (by decide)) dL_1011 ?_
    have hWo := gX_H (v0 := v) hW
    refine gh_S (As := [.ref (ka (jX J) 0), .int (xs (x4 + (1 : Int32)).toNatClampNeg)]) (mc' := cells + 3) (ms' := slots + 18) F hZ hN hWo (hL_remove hl9 h1 (Or.inl ⟨e1, rfl⟩)) (gT_I q_6_78) rfl (hG _ q_6_76) (hG _ q_6_77) (hG _ q_1_0) hdX10_remove.2 ⟨(Nat.le_of_ble_eq_true rfl), (Nat.le_of_ble_eq_true rfl)⟩ rfl hl.1 rfl (Nat.le_of_ble_eq_true rfl) dL_1012 ⟨by show cells + 3 ≤ 601024; omega, by show slots + 18 ≤ 7293000; omega⟩ rfl rfl (fun H locs hW => ?_)
    have hW := gH_X (J := J) (τ := τ) (v := v) hW
    refine lv_istore (lv' := [(5, .int (0 : Int32)), (0, .ref b), (1, .ref (ka (jX J) 0)), (2, .ref (ka (jM J) 0)), (3, .ref (jq J)), (4, .int x4)]) hx hb dL_1015 hl (by decide) rfl (fun ls hl => ?_)
    refine lv_aload_n hx hb dL_1017 rfl (lv_at hl 3 rfl) ?_
    refine lv_aload_n hx hb dL_1018 rfl (lv_at hl 1 rfl) ?_
    refine lv_iload hx hb dL_1019 (lv_at hl 5 rfl) ?_
    refine lv_iconst (v := (1 : Int32)) hx hb dL_1021 (by decide) ?_
    refine lv_iadd hx hb dL_1022 ?_
    refine va_sld hx hb hX hbl hbA hW.2.2.2.1 (hin (1 : Int32) (by decide) (by decide)) dL_1023 ?_
    have hW := toM hW
    refine gw_Vv (As := [.int (xs (x4 + (1 : Int32)).toNatClampNeg)]) (mc' := cells + 3) (ms' := slots + 18) F hW (mMX12_remove_0 h2) (cwV 1 hts (gT_V q_7_185 q_7_186 q_7_187 q_1_12 q_7_188) rfl rfl rfl hdX12_remove ⟨(Nat.le_of_ble_eq_true rfl), (Nat.le_of_ble_eq_true rfl)⟩) 0 10 (aM_0 _ _) rfl rfl hl.1 rfl (Nat.le_of_ble_eq_true rfl) dL_1024 ⟨by show cells + 3 + 0 ≤ 601024; omega, by show slots + 18 + 0 ≤ 7293000; omega⟩ rfl rfl (fun H locs hW => ?_)
    have hW := toX hW
    refine lv_aload_n hx hb dL_1027 rfl (lv_at hl 3 rfl) ?_
    have hW := toM hW
    refine gw_Vi (As := []) (mc' := cells + 3) (ms' := slots + 18) F hW (mMX12_thrown_0 (rfl : fMX12_thrown_0 (jn J) o2 = some (o2.1 0, o2))) (cwV 0 hts (gT_V q_6_214 q_6_215 q_6_216 q_1_12 q_6_217) rfl rfl rfl hdX12_thrown ⟨(Nat.le_of_ble_eq_true rfl), (Nat.le_of_ble_eq_true rfl)⟩) 0 10 (aM_0 _ _) rfl rfl hl.1 rfl (Nat.le_of_ble_eq_true rfl) dL_1028 ⟨by show cells + 3 + 0 ≤ 601024; omega, by show slots + 18 + 0 ≤ 7293000; omega⟩ rfl rfl (fun H locs hW => ?_)
    have hW := toX hW
    refine lv_iload hx hb dL_1031 (lv_at hl 0 rfl) ?_
    refine lv_icmp_eq (tgt := 1038) hx hb dL_1033 (by decide) (fun c1033 => ?_) (fun c1033 => absurd (e2) c1033)
    refine lv_goto (tgt := 1133) hx hb dL_1038 (by decide) ?_
    exact W.widen (k := cells + 5) (n := slots + 25) (by omega) (by omega) (nxt _ _ v H locs ls hI (lv_sub hl [1, 2, 3, 4, 5] rfl) hW)
  · refine lv_aload_n hx hb dL_1005 rfl (lv_at hl 1 rfl) ?_
    refine lv_aload_n hx hb dL_1006 rfl (lv_at hl 0 rfl) ?_
    refine lv_iload hx hb dL_1007 (lv_at hl 4 rfl) ?_
    refine lv_iconst (v := (1 : Int32)) hx hb dL_1009 (by decide) ?_
    refine lv_iadd hx hb dL_1010 ?_
    refine va_sld hx hb hX hbl hbA hW.2.2.2.1 (hin (1 : Int32) (by decide) (by decide)) dL_1011 ?_
    have hWo := gX_H (v0 := v) hW
    refine gh_S (As := [.ref (ka (jX J) 0), .int (xs (x4 + (1 : Int32)).toNatClampNeg)]) (mc' := cells + 3) (ms' := slots + 18) F hZ hN hWo (hL_remove hl9 h1 (Or.inr (Or.inl ⟨e1, rfl⟩))) (gT_I q_6_78) rfl (hG _ q_6_76) (hG _ q_6_77) (hG _ q_1_0) hdX10_remove.2 ⟨(Nat.le_of_ble_eq_true rfl), (Nat.le_of_ble_eq_true rfl)⟩ rfl hl.1 rfl (Nat.le_of_ble_eq_true rfl) dL_1012 ⟨by show cells + 3 ≤ 601024; omega, by show slots + 18 ≤ 7293000; omega⟩ rfl rfl (fun H locs hW => ?_)
    have hW := gH_X (J := J) (τ := τ) (v := v) hW
    refine lv_istore (lv' := [(5, .int (1 : Int32)), (0, .ref b), (1, .ref (ka (jX J) 0)), (2, .ref (ka (jM J) 0)), (3, .ref (jq J)), (4, .int x4)]) hx hb dL_1015 hl (by decide) rfl (fun ls hl => ?_)
    refine lv_aload_n hx hb dL_1017 rfl (lv_at hl 3 rfl) ?_
    refine lv_aload_n hx hb dL_1018 rfl (lv_at hl 1 rfl) ?_
    refine lv_iload hx hb dL_1019 (lv_at hl 5 rfl) ?_
    refine lv_iconst (v := (1 : Int32)) hx hb dL_1021 (by decide) ?_
    refine lv_iadd hx hb dL_1022 ?_
    refine va_sld hx hb hX hbl hbA hW.2.2.2.1 (hin (1 : Int32) (by decide) (by decide)) dL_1023 ?_
    have hW := toM hW
    refine gw_Vv (As := [.int (xs (x4 + (1 : Int32)).toNatClampNeg)]) (mc' := cells + 3) (ms' := slots + 18) F hW (mMX12_remove_0 h2) (cwV 1 hts (gT_V q_7_185 q_7_186 q_7_187 q_1_12 q_7_188) rfl rfl rfl hdX12_remove ⟨(Nat.le_of_ble_eq_true rfl), (Nat.le_of_ble_eq_true rfl)⟩) 0 10 (aM_0 _ _) rfl rfl hl.1 rfl (Nat.le_of_ble_eq_true rfl) dL_1024 ⟨by show cells + 3 + 0 ≤ 601024; omega, by show slots + 18 + 0 ≤ 7293000; omega⟩ rfl rfl (fun H locs hW => ?_)
    have hW := toX hW
    refine lv_aload_n hx hb dL_1027 rfl (lv_at hl 3 rfl) ?_
    have hW := toM hW
    refine gw_Vi (As := []) (mc' := cells + 3) (ms' := slots + 18) F hW (mMX12_thrown_0 (rfl : fMX12_thrown_0 (jn J) o2 = some (o2.1 0, o2))) (cwV 0 hts (gT_V q_6_214 q_6_215 q_6_216 q_1_12 q_6_217) rfl rfl rfl hdX12_thrown ⟨(Nat.le_of_ble_eq_true rfl), (Nat.le_of_ble_eq_true rfl)⟩) 0 10 (aM_0 _ _) rfl rfl hl.1 rfl (Nat.le_of_ble_eq_true rfl) dL_1028 ⟨by show cells + 3 + 0 ≤ 601024; omega, by show slots + 18 + 0 ≤ 7293000; omega⟩ rfl rfl (fun H locs hW => ?_)
    have hW := toX hW
    refine lv_iload hx hb dL_1031 (lv_at hl 0 rfl) ?_
    refine lv_icmp_eq (tgt := 1038) hx hb dL_1033 (by decide) (fun c1033 => ?_) (fun c1033 => absurd (e2) c1033)
    refine lv_goto (tgt := 1133) hx hb dL_1038 (by decide) ?_
    exact W.widen (k := cells + 5) (n := slots + 25) (by omega) (by omega) (nxt _ _ v H locs ls hI (lv_sub hl [1, 2, 3, 4, 5] rfl) hW)
  · refine lv_aload_n hx hb dL_1005 rfl (lv_at hl 1 rfl) ?_
    refine lv_aload_n hx hb dL_1006 rfl (lv_at hl 0 rfl) ?_
    refine lv_iload hx hb dL_1007 (lv_at hl 4 rfl) ?_
    refine lv_iconst (v := (1 : Int32)) hx hb dL_1009 (by decide) ?_
    refine lv_iadd hx hb dL_1010 ?_
    refine va_sld hx hb hX hbl hbA hW.2.2.2.1 (hin (1 : Int32) (by decide) (by decide)) dL_1011 ?_
    have hWo := gX_H (v0 := v) hW
    refine gh_S (As := [.ref (ka (jX J) 0), .int (xs (x4 + (1 : Int32)).toNatClampNeg)]) (mc' := cells + 3) (ms' := slots + 18) F hZ hN hWo (hL_remove hl9 h1 (Or.inr (Or.inr (Or.inl ⟨e1, rfl⟩)))) (gT_I q_6_78) rfl (hG _ q_6_76) (hG _ q_6_77) (hG _ q_1_0) hdX10_remove.2 ⟨(Nat.le_of_ble_eq_true rfl), (Nat.le_of_ble_eq_true rfl)⟩ rfl hl.1 rfl (Nat.le_of_ble_eq_true rfl) dL_1012 ⟨by show cells + 3 ≤ 601024; omega, by show slots + 18 ≤ 7293000; omega⟩ rfl rfl (fun H locs hW => ?_)
    have hW := gH_X (J := J) (τ := τ) (v := v) hW
    refine lv_istore (lv' := [(5, .int (2 : Int32)), (0, .ref b), (1, .ref (ka (jX J) 0)), (2, .ref (ka (jM J) 0)), (3, .ref (jq J)), (4, .int x4)]) hx hb dL_1015 hl (by decide) rfl (fun ls hl => ?_)
    refine lv_aload_n hx hb dL_1017 rfl (lv_at hl 3 rfl) ?_
    refine lv_aload_n hx hb dL_1018 rfl (lv_at hl 1 rfl) ?_
    refine lv_iload hx hb dL_1019 (lv_at hl 5 rfl) ?_
    refine lv_iconst (v := (1 : Int32)) hx hb dL_1021 (by decide) ?_
    refine lv_iadd hx hb dL_1022 ?_
    refine va_sld hx hb hX hbl hbA hW.2.2.2.1 (hin (1 : Int32) (by decide) (by decide)) dL_1023 ?_
    have hW := toM hW
    refine gw_Vv (As := [.int (xs (x4 + (1 : Int32)).toNatClampNeg)]) (mc' := cells + 3) (ms' := slots + 18) F hW (mMX12_remove_0 h2) (cwV 1 hts (gT_V q_7_185 q_7_186 q_7_187 q_1_12 q_7_188) rfl rfl rfl hdX12_remove ⟨(Nat.le_of_ble_eq_true rfl), (Nat.le_of_ble_eq_true rfl)⟩) 0 10 (aM_0 _ _) rfl rfl hl.1 rfl (Nat.le_of_ble_eq_true rfl) dL_1024 ⟨by show cells + 3 + 0 ≤ 601024; omega, by show slots + 18 + 0 ≤ 7293000; omega⟩ rfl rfl (fun H locs hW => ?_)
    have hW := toX hW
    refine lv_aload_n hx hb dL_1027 rfl (lv_at hl 3 rfl) ?_
    have hW := toM hW
    refine gw_Vi (As := []) (mc' := cells + 3) (ms' := slots + 18) F hW (mMX12_thrown_0 (rfl : fMX12_thrown_0 (jn J) o2 = some (o2.1 0, o2))) (cwV 0 hts (gT_V q_6_214 q_6_215 q_6_216 q_1_12 q_6_217) rfl rfl rfl hdX12_thrown ⟨(Nat.le_of_ble_eq_true rfl), (Nat.le_of_ble_eq_true rfl)⟩) 0 10 (aM_0 _ _) rfl rfl hl.1 rfl (Nat.le_of_ble_eq_true rfl) dL_1028 ⟨by show cells + 3 + 0 ≤ 601024; omega, by show slots + 18 + 0 ≤ 7293000; omega⟩ rfl rfl (fun H locs hW => ?_)
    have hW := toX hW
    refine lv_iload hx hb dL_1031 (lv_at hl 0 rfl) ?_
    refine lv_icmp_eq (tgt := 1038) hx hb dL_1033 (by decide) (fun c1033 => ?_) (fun c1033 => absurd (e2) c1033)
    refine lv_goto (tgt := 1133) hx hb dL_1038 (by decide) ?_
    exact W.widen (k := cells + 5) (n := slots + 25) (by omega) (by omega) (nxt _ _ v H locs ls hI (lv_sub hl [1, 2, 3, 4, 5] rfl) hW)
  · refine lv_aload_n hx hb dL_1005 rfl (lv_at hl 1 rfl) ?_
    refine lv_aload_n hx hb dL_1006 rfl (lv_at hl 0 rfl) ?_
    refine lv_iload hx hb dL_1007 (lv_at hl 4 rfl) ?_
    refine lv_iconst (v := (1 : Int32)) hx hb dL_1009 (by decide) ?_
    refine lv_iadd hx hb dL_1010 ?_
    refine va_sld hx hb hX hbl hbA hW.2.2.2.1 (hin (1 : Int32) (by decide) (by decide)) dL_1011 ?_
    have hWo := gX_H (v0 := v) hW
    refine gh_S (As := [.ref (ka (jX J) 0), .int (xs (x4 + (1 : Int32)).toNatClampNeg)]) (mc' := cells + 3) (ms' := slots + 18) F hZ hN hWo (hL_remove hl9 h1 (Or.inr (Or.inr (Or.inr (⟨e1, rfl⟩))))) (gT_I q_6_78) rfl (hG _ q_6_76) (hG _ q_6_77) (hG _ q_1_0) hdX10_remove.2 ⟨(Nat.le_of_ble_eq_true rfl), (Nat.le_of_ble_eq_true rfl)⟩ rfl hl.1 rfl (Nat.le_of_ble_eq_true rfl) dL_1012 ⟨by show cells + 3 ≤ 601024; omega, by show slots + 18 ≤ 7293000; omega⟩ rfl rfl (fun H locs hW => ?_)
    have hW := gH_X (J := J) (τ := τ) (v := v) hW
    refine lv_istore (lv' := [(5, .int (3 : Int32)), (0, .ref b), (1, .ref (ka (jX J) 0)), (2, .ref (ka (jM J) 0)), (3, .ref (jq J)), (4, .int x4)]) hx hb dL_1015 hl (by decide) rfl (fun ls hl => ?_)
    refine lv_aload_n hx hb dL_1017 rfl (lv_at hl 3 rfl) ?_
    refine lv_aload_n hx hb dL_1018 rfl (lv_at hl 1 rfl) ?_
    refine lv_iload hx hb dL_1019 (lv_at hl 5 rfl) ?_
    refine lv_iconst (v := (1 : Int32)) hx hb dL_1021 (by decide) ?_
    refine lv_iadd hx hb dL_1022 ?_
    refine va_sld hx hb hX hbl hbA hW.2.2.2.1 (hin (1 : Int32) (by decide) (by decide)) dL_1023 ?_
    have hW := toM hW
    refine gw_Vv (As := [.int (xs (x4 + (1 : Int32)).toNatClampNeg)]) (mc' := cells + 3) (ms' := slots + 18) F hW (mMX12_remove_0 h2) (cwV 1 hts (gT_V q_7_185 q_7_186 q_7_187 q_1_12 q_7_188) rfl rfl rfl hdX12_remove ⟨(Nat.le_of_ble_eq_true rfl), (Nat.le_of_ble_eq_true rfl)⟩) 0 10 (aM_0 _ _) rfl rfl hl.1 rfl (Nat.le_of_ble_eq_true rfl) dL_1024 ⟨by show cells + 3 + 0 ≤ 601024; omega, by show slots + 18 + 0 ≤ 7293000; omega⟩ rfl rfl (fun H locs hW => ?_)
    have hW := toX hW
    refine lv_aload_n hx hb dL_1027 rfl (lv_at hl 3 rfl) ?_
    have hW := toM hW
    refine gw_Vi (As := []) (mc' := cells + 3) (ms' := slots + 18) F hW (mMX12_thrown_0 (rfl : fMX12_thrown_0 (jn J) o2 = some (o2.1 0, o2))) (cwV 0 hts (gT_V q_6_214 q_6_215 q_6_216 q_1_12 q_6_217) rfl rfl rfl hdX12_thrown ⟨(Nat.le_of_ble_eq_true rfl), (Nat.le_of_ble_eq_true rfl)⟩) 0 10 (aM_0 _ _) rfl rfl hl.1 rfl (Nat.le_of_ble_eq_true rfl) dL_1028 ⟨by show cells + 3 + 0 ≤ 601024; omega, by show slots + 18 + 0 ≤ 7293000; omega⟩ rfl rfl (fun H locs hW => ?_)
    have hW := toX hW
    refine lv_iload hx hb dL_1031 (lv_at hl 0 rfl) ?_
    refine lv_icmp_eq (tgt := 1038) hx hb dL_1033 (by decide) (fun c1033 => ?_) (fun c1033 => absurd (e2) c1033)
    refine lv_goto (tgt := 1133) hx hb dL_1038 (by decide) ?_
    exact W.widen (k := cells + 5) (n := slots + 25) (by omega) (by omega) (nxt _ _ v H locs ls hI (lv_sub hl [1, 2, 3, 4, 5] rfl) hW)
set_option maxHeartbeats 4000000 in
set_option maxRecDepth 100000 in
theorem lc_stamp {p : Program} {l : Launch} {e : Env} {s : State} {m : MethodId} {below : List Frame} {meth : Method} {c : Code} {b L : Nat} {xs : Nat → Int32} {J : LJ} {Inv : XS → XS → Prop} (F : fx_ p s m #[Value.ref b] meth c code 8 ret "InodeDeskLaw" (Cond.initialized "InodeDeskLaw" :: gT)) (hl9 : l.stackTraces = false) (hZ : xz_ (fun q : Nat => s.heap.size ≤ q) s) (hN : xn_ s) (hX : va_X b L xs s s.heap) (hbl : b < s.heap.size) (St : St_all (jn J) Inv) {x4 : Int32} {cells slots : Nat} (hcc : cells + 5 ≤ 601024) (hss : slots + 25 ≤ 7293000) (hin : ∀ k : Int32, 0 ≤ k → k < 6 → vp_in (x4 + k) L) (nxt : lw_next p l e s m below meth c b J Inv x4 cells slots) (σ τ : XS) (v : Nat → Int64) (hI : Inv σ τ) (H : Heap) (locs : List Loc) (ls : Array Slot) (hl : lv_has ls 8 [(0, .ref b), (1, .ref (ka (jX J) 0)), (2, .ref (ka (jM J) 0)), (3, .ref (jq J)), (4, .int x4)]) (hW : gw_ (kD (KC J τ v)) vwCl (tyX (KC J τ v)) (wX (KC J τ v)) (fun q : Nat => s.heap.size ≤ q) s σ H locs) : W p l e room_1 s m #[Value.ref b] below meth c H locs cells slots (lw_Z below #[Value.ref b] s) (F0 m 1041 ls []) := by
  have hx := F.1
  have hb := F.2.1
  have hml := F.2.2.2.1
  have hown := F.2.2.2.2.1
  have hts := F.2.2.2.2.2.1
  have hG : ∀ x ∈ gT, x.before _ s = true := fun x h => hts x (List.mem_cons_of_mem _ h)
  have hbA : ¬ (fun q : Nat => s.heap.size ≤ q) b := Nat.not_le.mpr hbl
  obtain ⟨o1, o2, h1, h2, hI, hc⟩ := (St.2.2.2.2.2.2.2.2.2.2.2.2.2.2.2.2.2) σ τ (xs (x4 + (1 : Int32)).toNatClampNeg) (xs (x4 + (2 : Int32)).toNatClampNeg) (((xs (x4 + (3 : Int32)).toNatClampNeg).toInt64 <<< ((32 : Int32).toInt64 &&& 63)) ||| ((xs (x4 + (4 : Int32)).toNatClampNeg).toInt64 &&& (4294967295 : Int64))) hI
  rcases hc with ⟨e1, e2⟩ | ⟨e1, e2⟩ | ⟨e1, e2⟩ | ⟨e1, e2⟩
  · refine lv_aload_n hx hb dL_1041 rfl (lv_at hl 1 rfl) ?_
    refine lv_aload_n hx hb dL_1042 rfl (lv_at hl 0 rfl) ?_
    refine lv_iload hx hb dL_1043 (lv_at hl 4 rfl) ?_
    refine lv_iconst (v := (1 : Int32)) hx hb dL_1045 (by decide) ?_
    refine lv_iadd hx hb dL_1046 ?_
    refine va_sld hx hb hX hbl hbA hW.2.2.2.1 (hin (1 : Int32) (by decide) (by decide)) dL_1047 ?_
    refine lv_aload_n hx hb dL_1048 rfl (lv_at hl 0 rfl) ?_
    refine lv_iload hx hb dL_1049 (lv_at hl 4 rfl) ?_
    refine lv_iconst (v := (2 : Int32)) hx hb dL_1051 (by decide) ?_
    refine lv_iadd hx hb dL_1052 ?_
    refine va_sld hx hb hX hbl hbA hW.2.2.2.1 (hin (2 : Int32) (by decide) (by decide)) dL_1053 ?_
    refine lv_aload_n hx hb dL_1054 rfl (lv_at hl 0 rfl) ?_
    refine lv_iload hx hb dL_1055 (lv_at hl 4 rfl) ?_
    refine lv_iconst (v := (3 : Int32)) hx hb dL_1057 (by decide) ?_
    refine lv_iadd hx hb dL_1058 ?_
    refine va_sld hx hb hX hbl hbA hW.2.2.2.1 (hin (3 : Int32) (by decide) (by decide)) dL_1059 ?_
    refine lv_i2l (v := (xs (x4 + (3 : Int32)).toNatClampNeg).toInt64) hx hb dL_1060 rfl ?_
    refine lv_bipush (v := (32 : Int32)) hx hb dL_1061 (by decide) ?_
    refine lv_lshl (v := ((xs (x4 + (3 : Int32)).toNatClampNeg).toInt64 <<< ((32 : Int32).toInt64 &&& 63))) hx hb dL_1063 rfl ?_
    refine lv_aload_n hx hb dL_1064 rfl (lv_at hl 0 rfl) ?_
    refine lv_iload hx hb dL_1065 (lv_at hl 4 rfl) ?_
    refine lv_iconst (v := (4 : Int32)) hx hb dL_1067 (by decide) ?_
    refine lv_iadd hx hb dL_1068 ?_
    refine va_sld hx hb hX hbl hbA hW.2.2.2.1 (hin (4 : Int32) (by decide) (by decide)) dL_1069 ?_
    refine lv_i2l (v := (xs (x4 + (4 : Int32)).toNatClampNeg).toInt64) hx hb dL_1070 rfl ?_
    refine lv_ldc2 (own := RX10) (v := (4294967295 : Int64)) hx hb hown (hG _ q_7_194) dL_1071 ?_
    refine lv_land hx hb dL_1074 ?_
    refine lv_lor hx hb dL_1075 ?_
    have hWo := gX_H (v0 := v) hW
    refine gh_S (As := [.ref (ka (jX J) 0), .int (xs (x4 + (1 : Int32)).toNatClampNeg), .int (xs (x4 + (2 : Int32)).toNatClampNeg), .long (((xs (x4 + (3 : Int32)).toNatClampNeg).toInt64 <<< ((32 : Int32).toInt64 &&& 63)) ||| ((xs (x4 + (4 : Int32)).toNatClampNeg).toInt64 &&& (4294967295 : Int64)))]) (mc' := cells + 3) (ms' := slots + 18) F hZ hN hWo (hL_stamp hl9 h1 (Or.inl ⟨e1, rfl⟩)) (gT_I q_6_95) rfl (hG _ q_6_93) (hG _ q_6_94) (hG _ q_1_0) hdX10_stamp.2 ⟨(Nat.le_of_ble_eq_true rfl), (Nat.le_of_ble_eq_true rfl)⟩ rfl hl.1 rfl (Nat.le_of_ble_eq_true rfl) dL_1076 ⟨by show cells + 3 ≤ 601024; omega, by show slots + 18 ≤ 7293000; omega⟩ rfl rfl (fun H locs hW => ?_)
    have hW := gH_X (J := J) (τ := τ) (v := v) hW
    refine lv_istore (lv' := [(5, .int (0 : Int32)), (0, .ref b), (1, .ref (ka (jX J) 0)), (2, .ref (ka (jM J) 0)), (3, .ref (jq J)), (4, .int x4)]) hx hb dL_1079 hl (by decide) rfl (fun ls hl => ?_)
    refine lv_aload_n hx hb dL_1081 rfl (lv_at hl 3 rfl) ?_
    refine lv_aload_n hx hb dL_1082 rfl (lv_at hl 1 rfl) ?_
    refine lv_iload hx hb dL_1083 (lv_at hl 5 rfl) ?_
    refine lv_iconst (v := (1 : Int32)) hx hb dL_1085 (by decide) ?_
    refine lv_iadd hx hb dL_1086 ?_
    refine va_sld hx hb hX hbl hbA hW.2.2.2.1 (hin (1 : Int32) (by decide) (by decide)) dL_1087 ?_
    refine lv_aload_n hx hb dL_1088 rfl (lv_at hl 1 rfl) ?_
    refine lv_iload hx hb dL_1089 (lv_at hl 5 rfl) ?_
    refine lv_iconst (v := (2 : Int32)) hx hb dL_1091 (by decide) ?_
    refine lv_iadd hx hb dL_1092 ?_
    refine va_sld hx hb hX hbl hbA hW.2.2.2.1 (hin (2 : Int32) (by decide) (by decide)) dL_1093 ?_
    refine lv_aload_n hx hb dL_1094 rfl (lv_at hl 1 rfl) ?_
    refine lv_iload hx hb dL_1095 (lv_at hl 5 rfl) ?_
    refine lv_iconst (v := (3 : Int32)) hx hb dL_1097 (by decide) ?_
    refine lv_iadd hx hb dL_1098 ?_
    refine va_sld hx hb hX hbl hbA hW.2.2.2.1 (hin (3 : Int32) (by decide) (by decide)) dL_1099 ?_
    refine lv_i2l (v := (xs (x4 + (3 : Int32)).toNatClampNeg).toInt64) hx hb dL_1100 rfl ?_
    refine lv_bipush (v := (32 : Int32)) hx hb dL_1101 (by decide) ?_
    refine lv_lshl (v := ((xs (x4 + (3 : Int32)).toNatClampNeg).toInt64 <<< ((32 : Int32).toInt64 &&& 63))) hx hb dL_1103 rfl ?_
    refine lv_aload_n hx hb dL_1104 rfl (lv_at hl 1 rfl) ?_
    refine lv_iload hx hb dL_1105 (lv_at hl 5 rfl) ?_
    refine lv_iconst (v := (4 : Int32)) hx hb dL_1107 (by decide) ?_
    refine lv_iadd hx hb dL_1108 ?_
    refine va_sld hx hb hX hbl hbA hW.2.2.2.1 (hin (4 : Int32) (by decide) (by decide)) dL_1109 ?_
    refine lv_i2l (v := (xs (x4 + (4 : Int32)).toNatClampNeg).toInt64) hx hb dL_1110 rfl ?_
    refine lv_ldc2 (own := RX10) (v := (4294967295 : Int64)) hx hb hown (hG _ q_7_194) dL_1111 ?_
    refine lv_land hx hb dL_1114 ?_
    refine lv_lor hx hb dL_1115 ?_
    have hW := toM hW
    refine gw_Vv (As := [.int (xs (x4 + (1 : Int32)).toNatClampNeg), .int (xs (x4 + (2 : Int32)).toNatClampNeg), .long (((xs (x4 + (3 : Int32)).toNatClampNeg).toInt64 <<< ((32 : Int32).toInt64 &&& 63)) ||| ((xs (x4 + (4 : Int32)).toNatClampNeg).toInt64 &&& (4294967295 : Int64)))]) (mc' := cells + 3) (ms' := slots + 18) F hW (mMX12_stamp_0 h2) (cwV 3 hts (gT_V q_7_189 q_7_190 q_7_191 q_1_12 q_7_192) rfl rfl rfl hdX12_stamp ⟨(Nat.le_of_ble_eq_true rfl), (Nat.le_of_ble_eq_true rfl)⟩) 0 10 (aM_0 _ _) rfl rfl hl.1 rfl (Nat.le_of_ble_eq_true rfl) dL_1116 ⟨by show cells + 3 + 0 ≤ 601024; omega, by show slots + 18 + 0 ≤ 7293000; omega⟩ rfl rfl (fun H locs hW => ?_)
    have hW := toX hW
    refine lv_aload_n hx hb dL_1119 rfl (lv_at hl 3 rfl) ?_
    have hW := toM hW
    refine gw_Vi (As := []) (mc' := cells + 3) (ms' := slots + 18) F hW (mMX12_thrown_0 (rfl : fMX12_thrown_0 (jn J) o2 = some (o2.1 0, o2))) (cwV 0 hts (gT_V q_6_214 q_6_215 q_6_216 q_1_12 q_6_217) rfl rfl rfl hdX12_thrown ⟨(Nat.le_of_ble_eq_true rfl), (Nat.le_of_ble_eq_true rfl)⟩) 0 10 (aM_0 _ _) rfl rfl hl.1 rfl (Nat.le_of_ble_eq_true rfl) dL_1120 ⟨by show cells + 3 + 0 ≤ 601024; omega, by show slots + 18 + 0 ≤ 7293000; omega⟩ rfl rfl (fun H locs hW => ?_)
    have hW := toX hW
    refine lv_iload hx hb dL_1123 (lv_at hl 0 rfl) ?_
    refine lv_icmp_eq (tgt := 1130) hx hb dL_1125 (by decide) (fun c1125 => ?_) (fun c1125 => absurd (e2) c1125)
    refine lv_goto (tgt := 1133) hx hb dL_1130 (by decide) ?_
    exact W.widen (k := cells + 5) (n := slots + 25) (by omega) (by omega) (nxt _ _ v H locs ls hI (lv_sub hl [1, 2, 3, 4, 5] rfl) hW)
  · refine lv_aload_n hx hb dL_1041 rfl (lv_at hl 1 rfl) ?_
    refine lv_aload_n hx hb dL_1042 rfl (lv_at hl 0 rfl) ?_
    refine lv_iload hx hb dL_1043 (lv_at hl 4 rfl) ?_
    refine lv_iconst (v := (1 : Int32)) hx hb dL_1045 (by decide) ?_
    refine lv_iadd hx hb dL_1046 ?_
    refine va_sld hx hb hX hbl hbA hW.2.2.2.1 (hin (1 : Int32) (by decide) (by decide)) dL_1047 ?_
    refine lv_aload_n hx hb dL_1048 rfl (lv_at hl 0 rfl) ?_
    refine lv_iload hx hb dL_1049 (lv_at hl 4 rfl) ?_
    refine lv_iconst (v := (2 : Int32)) hx hb dL_1051 (by decide) ?_
    refine lv_iadd hx hb dL_1052 ?_
    refine va_sld hx hb hX hbl hbA hW.2.2.2.1 (hin (2 : Int32) (by decide) (by decide)) dL_1053 ?_
    refine lv_aload_n hx hb dL_1054 rfl (lv_at hl 0 rfl) ?_
    refine lv_iload hx hb dL_1055 (lv_at hl 4 rfl) ?_
    refine lv_iconst (v := (3 : Int32)) hx hb dL_1057 (by decide) ?_
    refine lv_iadd hx hb dL_1058 ?_
    refine va_sld hx hb hX hbl hbA hW.2.2.2.1 (hin (3 : Int32) (by decide) (by decide)) dL_1059 ?_
    refine lv_i2l (v := (xs (x4 + (3 : Int32)).toNatClampNeg).toInt64) hx hb dL_1060 rfl ?_
    refine lv_bipush (v := (32 : Int32)) hx hb dL_1061 (by decide) ?_
    refine lv_lshl (v := ((xs (x4 + (3 : Int32)).toNatClampNeg).toInt64 <<< ((32 : Int32).toInt64 &&& 63))) hx hb dL_1063 rfl ?_
    refine lv_aload_n hx hb dL_1064 rfl (lv_at hl 0 rfl) ?_
    refine lv_iload hx hb dL_1065 (lv_at hl 4 rfl) ?_
    refine lv_iconst (v := (4 : Int32)) hx hb dL_1067 (by decide) ?_
    refine lv_iadd hx hb dL_1068 ?_
    refine va_sld hx hb hX hbl hbA hW.2.2.2.1 (hin (4 : Int32) (by decide) (by decide)) dL_1069 ?_
    refine lv_i2l (v := (xs (x4 + (4 : Int32)).toNatClampNeg).toInt64) hx hb dL_1070 rfl ?_
    refine lv_ldc2 (own := RX10) (v := (4294967295 : Int64)) hx hb hown (hG _ q_7_194) dL_1071 ?_
    refine lv_land hx hb dL_1074 ?_
    refine lv_lor hx hb dL_1075 ?_
    have hWo := gX_H (v0 := v) hW
    refine gh_S (As := [.ref (ka (jX J) 0), .int (xs (x4 + (1 : Int32)).toNatClampNeg), .int (xs (x4 + (2 : Int32)).toNatClampNeg), .long (((xs (x4 + (3 : Int32)).toNatClampNeg).toInt64 <<< ((32 : Int32).toInt64 &&& 63)) ||| ((xs (x4 + (4 : Int32)).toNatClampNeg).toInt64 &&& (4294967295 : Int64)))]) (mc' := cells + 3) (ms' := slots + 18) F hZ hN hWo (hL_stamp hl9 h1 (Or.inr (Or.inl ⟨e1, rfl⟩))) (gT_I q_6_95) rfl (hG _ q_6_93) (hG _ q_6_94) (hG _ q_1_0) hdX10_stamp.2 ⟨(Nat.le_of_ble_eq_true rfl), (Nat.le_of_ble_eq_true rfl)⟩ rfl hl.1 rfl (Nat.le_of_ble_eq_true rfl) dL_1076 ⟨by show cells + 3 ≤ 601024; omega, by show slots + 18 ≤ 7293000; omega⟩ rfl rfl (fun H locs hW => ?_)
    have hW := gH_X (J := J) (τ := τ) (v := v) hW
    refine lv_istore (lv' := [(5, .int (1 : Int32)), (0, .ref b), (1, .ref (ka (jX J) 0)), (2, .ref (ka (jM J) 0)), (3, .ref (jq J)), (4, .int x4)]) hx hb dL_1079 hl (by decide) rfl (fun ls hl => ?_)
    refine lv_aload_n hx hb dL_1081 rfl (lv_at hl 3 rfl) ?_
    refine lv_aload_n hx hb dL_1082 rfl (lv_at hl 1 rfl) ?_
    refine lv_iload hx hb dL_1083 (lv_at hl 5 rfl) ?_
    refine lv_iconst (v := (1 : Int32)) hx hb dL_1085 (by decide) ?_
    refine lv_iadd hx hb dL_1086 ?_
    refine va_sld hx hb hX hbl hbA hW.2.2.2.1 (hin (1 : Int32) (by decide) (by decide)) dL_1087 ?_
    refine lv_aload_n hx hb dL_1088 rfl (lv_at hl 1 rfl) ?_
    refine lv_iload hx hb dL_1089 (lv_at hl 5 rfl) ?_
    refine lv_iconst (v := (2 : Int32)) hx hb dL_1091 (by decide) ?_
    refine lv_iadd hx hb dL_1092 ?_
    refine va_sld hx hb hX hbl hbA hW.2.2.2.1 (hin (2 : Int32) (by decide) (by decide)) dL_1093 ?_
    refine lv_aload_n hx hb dL_1094 rfl (lv_at hl 1 rfl) ?_
    refine lv_iload hx hb dL_1095 (lv_at hl 5 rfl) ?_
    refine lv_iconst (v := (3 : Int32)) hx hb dL_1097 (by decide) ?_
    refine lv_iadd hx hb dL_1098 ?_
    refine va_sld hx hb hX hbl hbA hW.2.2.2.1 (hin (3 : Int32) (by decide) (by decide)) dL_1099 ?_
    refine lv_i2l (v := (xs (x4 + (3 : Int32)).toNatClampNeg).toInt64) hx hb dL_1100 rfl ?_
    refine lv_bipush (v := (32 : Int32)) hx hb dL_1101 (by decide) ?_
    refine lv_lshl (v := ((xs (x4 + (3 : Int32)).toNatClampNeg).toInt64 <<< ((32 : Int32).toInt64 &&& 63))) hx hb dL_1103 rfl ?_
    refine lv_aload_n hx hb dL_1104 rfl (lv_at hl 1 rfl) ?_
    refine lv_iload hx hb dL_1105 (lv_at hl 5 rfl) ?_
    refine lv_iconst (v := (4 : Int32)) hx hb dL_1107 (by decide) ?_
    refine lv_iadd hx hb dL_1108 ?_
    refine va_sld hx hb hX hbl hbA hW.2.2.2.1 (hin (4 : Int32) (by decide) (by decide)) dL_1109 ?_
    refine lv_i2l (v := (xs (x4 + (4 : Int32)).toNatClampNeg).toInt64) hx hb dL_1110 rfl ?_
    refine lv_ldc2 (own := RX10) (v := (4294967295 : Int64)) hx hb hown (hG _ q_7_194) dL_1111 ?_
    refine lv_land hx hb dL_1114 ?_
    refine lv_lor hx hb dL_1115 ?_
    have hW := toM hW
    refine gw_Vv (As := [.int (xs (x4 + (1 : Int32)).toNatClampNeg), .int (xs (x4 + (2 : Int32)).toNatClampNeg), .long (((xs (x4 + (3 : Int32)).toNatClampNeg).toInt64 <<< ((32 : Int32).toInt64 &&& 63)) ||| ((xs (x4 + (4 : Int32)).toNatClampNeg).toInt64 &&& (4294967295 : Int64)))]) (mc' := cells + 3) (ms' := slots + 18) F hW (mMX12_stamp_0 h2) (cwV 3 hts (gT_V q_7_189 q_7_190 q_7_191 q_1_12 q_7_192) rfl rfl rfl hdX12_stamp ⟨(Nat.le_of_ble_eq_true rfl), (Nat.le_of_ble_eq_true rfl)⟩) 0 10 (aM_0 _ _) rfl rfl hl.1 rfl (Nat.le_of_ble_eq_true rfl) dL_1116 ⟨by show cells + 3 + 0 ≤ 601024; omega, by show slots + 18 + 0 ≤ 7293000; omega⟩ rfl rfl (fun H locs hW => ?_)
    have hW := toX hW
    refine lv_aload_n hx hb dL_1119 rfl (lv_at hl 3 rfl) ?_
    have hW := toM hW
    refine gw_Vi (As := []) (mc' := cells + 3) (ms' := slots + 18) F hW (mMX12_thrown_0 (rfl : fMX12_thrown_0 (jn J) o2 = some (o2.1 0, o2))) (cwV 0 hts (gT_V q_6_214 q_6_215 q_6_216 q_1_12 q_6_217) rfl rfl rfl hdX12_thrown ⟨(Nat.le_of_ble_eq_true rfl), (Nat.le_of_ble_eq_true rfl)⟩) 0 10 (aM_0 _ _) rfl rfl hl.1 rfl (Nat.le_of_ble_eq_true rfl) dL_1120 ⟨by show cells + 3 + 0 ≤ 601024; omega, by show slots + 18 + 0 ≤ 7293000; omega⟩ rfl rfl (fun H locs hW => ?_)
    have hW := toX hW
    refine lv_iload hx hb dL_1123 (lv_at hl 0 rfl) ?_
    refine lv_icmp_eq (tgt := 1130) hx hb dL_1125 (by decide) (fun c1125 => ?_) (fun c1125 => absurd (e2) c1125)
    refine lv_goto (tgt := 1133) hx hb dL_1130 (by decide) ?_
    exact W.widen (k := cells + 5) (n := slots + 25) (by omega) (by omega) (nxt _ _ v H locs ls hI (lv_sub hl [1, 2, 3, 4, 5] rfl) hW)
  · refine lv_aload_n hx hb dL_1041 rfl (lv_at hl 1 rfl) ?_
    refine lv_aload_n hx hb dL_1042 rfl (lv_at hl 0 rfl) ?_
    refine lv_iload hx hb dL_1043 (lv_at hl 4 rfl) ?_
    refine lv_iconst (v := (1 : Int32)) hx hb dL_1045 (by decide) ?_
    refine lv_iadd hx hb dL_1046 ?_
    refine va_sld hx hb hX hbl hbA hW.2.2.2.1 (hin (1 : Int32) (by decide) (by decide)) dL_1047 ?_
    refine lv_aload_n hx hb dL_1048 rfl (lv_at hl 0 rfl) ?_
    refine lv_iload hx hb dL_1049 (lv_at hl 4 rfl) ?_
    refine lv_iconst (v := (2 : Int32)) hx hb dL_1051 (by decide) ?_
    refine lv_iadd hx hb dL_1052 ?_
    refine va_sld hx hb hX hbl hbA hW.2.2.2.1 (hin (2 : Int32) (by decide) (by decide)) dL_1053 ?_
    refine lv_aload_n hx hb dL_1054 rfl (lv_at hl 0 rfl) ?_
    refine lv_iload hx hb dL_1055 (lv_at hl 4 rfl) ?_
    refine lv_iconst (v := (3 : Int32)) hx hb dL_1057 (by decide) ?_
    refine lv_iadd hx hb dL_1058 ?_
    refine va_sld hx hb hX hbl hbA hW.2.2.2.1 (hin (3 : Int32) (by decide) (by decide)) dL_1059 ?_
    refine lv_i2l (v := (xs (x4 + (3 : Int32)).toNatClampNeg).toInt64) hx hb dL_1060 rfl ?_
    refine lv_bipush (v := (32 : Int32)) hx hb dL_1061 (by decide) ?_
    refine lv_lshl (v := ((xs (x4 + (3 : Int32)).toNatClampNeg).toInt64 <<< ((32 : Int32).toInt64 &&& 63))) hx hb dL_1063 rfl ?_
    refine lv_aload_n hx hb dL_1064 rfl (lv_at hl 0 rfl) ?_
    refine lv_iload hx hb dL_1065 (lv_at hl 4 rfl) ?_
    refine lv_iconst (v := (4 : Int32)) hx hb dL_1067 (by decide) ?_
    refine lv_iadd hx hb dL_1068 ?_
    refine va_sld hx hb hX hbl hbA hW.2.2.2.1 (hin (4 : Int32) (by decide) (by decide)) dL_1069 ?_
    refine lv_i2l (v := (xs (x4 + (4 : Int32)).toNatClampNeg).toInt64) hx hb dL_1070 rfl ?_
    refine lv_ldc2 (own := RX10) (v := (4294967295 : Int64)) hx hb hown (hG _ q_7_194) dL_1071 ?_
    refine lv_land hx hb dL_1074 ?_
    refine lv_lor hx hb dL_1075 ?_
    have hWo := gX_H (v0 := v) hW
    refine gh_S (As := [.ref (ka (jX J) 0), .int (xs (x4 + (1 : Int32)).toNatClampNeg), .int (xs (x4 + (2 : Int32)).toNatClampNeg), .long (((xs (x4 + (3 : Int32)).toNatClampNeg).toInt64 <<< ((32 : Int32).toInt64 &&& 63)) ||| ((xs (x4 + (4 : Int32)).toNatClampNeg).toInt64 &&& (4294967295 : Int64)))]) (mc' := cells + 3) (ms' := slots + 18) F hZ hN hWo (hL_stamp hl9 h1 (Or.inr (Or.inr (Or.inl ⟨e1, rfl⟩)))) (gT_I q_6_95) rfl (hG _ q_6_93) (hG _ q_6_94) (hG _ q_1_0) hdX10_stamp.2 ⟨(Nat.le_of_ble_eq_true rfl), (Nat.le_of_ble_eq_true rfl)⟩ rfl hl.1 rfl (Nat.le_of_ble_eq_true rfl) dL_1076 ⟨by show cells + 3 ≤ 601024; omega, by show slots + 18 ≤ 7293000; omega⟩ rfl rfl (fun H locs hW => ?_)
    have hW := gH_X (J := J) (τ := τ) (v := v) hW
    refine lv_istore (lv' := [(5, .int (2 : Int32)), (0, .ref b), (1, .ref (ka (jX J) 0)), (2, .ref (ka (jM J) 0)), (3, .ref (jq J)), (4, .int x4)]) hx hb dL_1079 hl (by decide) rfl (fun ls hl => ?_)
    refine lv_aload_n hx hb dL_1081 rfl (lv_at hl 3 rfl) ?_
    refine lv_aload_n hx hb dL_1082 rfl (lv_at hl 1 rfl) ?_
    refine lv_iload hx hb dL_1083 (lv_at hl 5 rfl) ?_
    refine lv_iconst (v := (1 : Int32)) hx hb dL_1085 (by decide) ?_
    refine lv_iadd hx hb dL_1086 ?_
    refine va_sld hx hb hX hbl hbA hW.2.2.2.1 (hin (1 : Int32) (by decide) (by decide)) dL_1087 ?_
    refine lv_aload_n hx hb dL_1088 rfl (lv_at hl 1 rfl) ?_
    refine lv_iload hx hb dL_1089 (lv_at hl 5 rfl) ?_
    refine lv_iconst (v := (2 : Int32)) hx hb dL_1091 (by decide) ?_
    refine lv_iadd hx hb dL_1092 ?_
    refine va_sld hx hb hX hbl hbA hW.2.2.2.1 (hin (2 : Int32) (by decide) (by decide)) dL_1093 ?_
    refine lv_aload_n hx hb dL_1094 rfl (lv_at hl 1 rfl) ?_
    refine lv_iload hx hb dL_1095 (lv_at hl 5 rfl) ?_
    refine lv_iconst (v := (3 : Int32)) hx hb dL_1097 (by decide) ?_
    refine lv_iadd hx hb dL_1098 ?_
    refine va_sld hx hb hX hbl hbA hW.2.2.2.1 (hin (3 : Int32) (by decide) (by decide)) dL_1099 ?_
    refine lv_i2l (v := (xs (x4 + (3 : Int32)).toNatClampNeg).toInt64) hx hb dL_1100 rfl ?_
    refine lv_bipush (v := (32 : Int32)) hx hb dL_1101 (by decide) ?_
    refine lv_lshl (v := ((xs (x4 + (3 : Int32)).toNatClampNeg).toInt64 <<< ((32 : Int32).toInt64 &&& 63))) hx hb dL_1103 rfl ?_
    refine lv_aload_n hx hb dL_1104 rfl (lv_at hl 1 rfl) ?_
    refine lv_iload hx hb dL_1105 (lv_at hl 5 rfl) ?_
    refine lv_iconst (v := (4 : Int32)) hx hb dL_1107 (by decide) ?_
    refine lv_iadd hx hb dL_1108 ?_
    refine va_sld hx hb hX hbl hbA hW.2.2.2.1 (hin (4 : Int32) (by decide) (by decide)) dL_1109 ?_
    refine lv_i2l (v := (xs (x4 + (4 : Int32)).toNatClampNeg).toInt64) hx hb dL_1110 rfl ?_
    refine lv_ldc2 (own := RX10) (v := (4294967295 : Int64)) hx hb hown (hG _ q_7_194) dL_1111 ?_
    refine lv_land hx hb dL_1114 ?_
    refine lv_lor hx hb dL_1115 ?_
    have hW := toM hW
    refine gw_Vv (As := [.int (xs (x4 + (1 : Int32)).toNatClampNeg), .int (xs (x4 + (2 : Int32)).toNatClampNeg), .long (((xs (x4 + (3 : Int32)).toNatClampNeg).toInt64 <<< ((32 : Int32).toInt64 &&& 63)) ||| ((xs (x4 + (4 : Int32)).toNatClampNeg).toInt64 &&& (4294967295 : Int64)))]) (mc' := cells + 3) (ms' := slots + 18) F hW (mMX12_stamp_0 h2) (cwV 3 hts (gT_V q_7_189 q_7_190 q_7_191 q_1_12 q_7_192) rfl rfl rfl hdX12_stamp ⟨(Nat.le_of_ble_eq_true rfl), (Nat.le_of_ble_eq_true rfl)⟩) 0 10 (aM_0 _ _) rfl rfl hl.1 rfl (Nat.le_of_ble_eq_true rfl) dL_1116 ⟨by show cells + 3 + 0 ≤ 601024; omega, by show slots + 18 + 0 ≤ 7293000; omega⟩ rfl rfl (fun H locs hW => ?_)
    have hW := toX hW
    refine lv_aload_n hx hb dL_1119 rfl (lv_at hl 3 rfl) ?_
    have hW := toM hW
    refine gw_Vi (As := []) (mc' := cells + 3) (ms' := slots + 18) F hW (mMX12_thrown_0 (rfl : fMX12_thrown_0 (jn J) o2 = some (o2.1 0, o2))) (cwV 0 hts (gT_V q_6_214 q_6_215 q_6_216 q_1_12 q_6_217) rfl rfl rfl hdX12_thrown ⟨(Nat.le_of_ble_eq_true rfl), (Nat.le_of_ble_eq_true rfl)⟩) 0 10 (aM_0 _ _) rfl rfl hl.1 rfl (Nat.le_of_ble_eq_true rfl) dL_1120 ⟨by show cells + 3 + 0 ≤ 601024; omega, by show slots + 18 + 0 ≤ 7293000; omega⟩ rfl rfl (fun H locs hW => ?_)
    have hW := toX hW
    refine lv_iload hx hb dL_1123 (lv_at hl 0 rfl) ?_
    refine lv_icmp_eq (tgt := 1130) hx hb dL_1125 (by decide) (fun c1125 => ?_) (fun c1125 => absurd (e2) c1125)
    refine lv_goto (tgt := 1133) hx hb dL_1130 (by decide) ?_
    exact W.widen (k := cells + 5) (n := slots + 25) (by omega) (by omega) (nxt _ _ v H locs ls hI (lv_sub hl [1, 2, 3, 4, 5] rfl) hW)
  · refine lv_aload_n hx hb dL_1041 rfl (lv_at hl 1 rfl) ?_
    refine lv_aload_n hx hb dL_1042 rfl (lv_at hl 0 rfl) ?_
    refine lv_iload hx hb dL_1043 (lv_at hl 4 rfl) ?_
    refine lv_iconst (v := (1 : Int32)) hx hb dL_1045 (by decide) ?_
    refine lv_iadd hx hb dL_1046 ?_
    refine va_sld hx hb hX hbl hbA hW.2.2.2.1 (hin (1 : Int32) (by decide) (by decide)) dL_1047 ?_
    refine lv_aload_n hx hb dL_1048 rfl (lv_at hl 0 rfl) ?_
    refine lv_iload hx hb dL_1049 (lv_at hl 4 rfl) ?_
    refine lv_iconst (v := (2 : Int32)) hx hb dL_1051 (by decide) ?_
    refine lv_iadd hx hb dL_1052 ?_
    refine va_sld hx hb hX hbl hbA hW.2.2.2.1 (hin (2 : Int32) (by decide) (by decide)) dL_1053 ?_
    refine lv_aload_n hx hb dL_1054 rfl (lv_at hl 0 rfl) ?_
    refine lv_iload hx hb dL_1055 (lv_at hl 4 rfl) ?_
    refine lv_iconst (v := (3 : Int32)) hx hb dL_1057 (by decide) ?_
    refine lv_iadd hx hb dL_1058 ?_
    refine va_sld hx hb hX hbl hbA hW.2.2.2.1 (hin (3 : Int32) (by decide) (by decide)) dL_1059 ?_
    refine lv_i2l (v := (xs (x4 + (3 : Int32)).toNatClampNeg).toInt64) hx hb dL_1060 rfl ?_
    refine lv_bipush (v := (32 : Int32)) hx hb dL_1061 (by decide) ?_
    refine lv_lshl (v := ((xs (x4 + (3 : Int32)).toNatClampNeg).toInt64 <<< ((32 : Int32).toInt64 &&& 63))) hx hb dL_1063 rfl ?_
    refine lv_aload_n hx hb dL_1064 rfl (lv_at hl 0 rfl) ?_
    refine lv_iload hx hb dL_1065 (lv_at hl 4 rfl) ?_
    refine lv_iconst (v := (4 : Int32)) hx hb dL_1067 (by decide) ?_
    refine lv_iadd hx hb dL_1068 ?_
    refine va_sld hx hb hX hbl hbA hW.2.2.2.1 (hin (4 : Int32) (by decide) (by decide)) dL_1069 ?_
    refine lv_i2l (v := (xs (x4 + (4 : Int32)).toNatClampNeg).toInt64) hx hb dL_1070 rfl ?_
    refine lv_ldc2 (own := RX10) (v := (4294967295 : Int64)) hx hb hown (hG _ q_7_194) dL_1071 ?_
    refine lv_land hx hb dL_1074 ?_
    refine lv_lor hx hb dL_1075 ?_
    have hWo := gX_H (v0 := v) hW
    refine gh_S (As := [.ref (ka (jX J) 0), .int (xs (x4 + (1 : Int32)).toNatClampNeg), .int (xs (x4 + (2 : Int32)).toNatClampNeg), .long (((xs (x4 + (3 : Int32)).toNatClampNeg).toInt64 <<< ((32 : Int32).toInt64 &&& 63)) ||| ((xs (x4 + (4 : Int32)).toNatClampNeg).toInt64 &&& (4294967295 : Int64)))]) (mc' := cells + 3) (ms' := slots + 18) F hZ hN hWo (hL_stamp hl9 h1 (Or.inr (Or.inr (Or.inr (⟨e1, rfl⟩))))) (gT_I q_6_95) rfl (hG _ q_6_93) (hG _ q_6_94) (hG _ q_1_0) hdX10_stamp.2 ⟨(Nat.le_of_ble_eq_true rfl), (Nat.le_of_ble_eq_true rfl)⟩ rfl hl.1 rfl (Nat.le_of_ble_eq_true rfl) dL_1076 ⟨by show cells + 3 ≤ 601024; omega, by show slots + 18 ≤ 7293000; omega⟩ rfl rfl (fun H locs hW => ?_)
    have hW := gH_X (J := J) (τ := τ) (v := v) hW
    refine lv_istore (lv' := [(5, .int (3 : Int32)), (0, .ref b), (1, .ref (ka (jX J) 0)), (2, .ref (ka (jM J) 0)), (3, .ref (jq J)), (4, .int x4)]) hx hb dL_1079 hl (by decide) rfl (fun ls hl => ?_)
    refine lv_aload_n hx hb dL_1081 rfl (lv_at hl 3 rfl) ?_
    refine lv_aload_n hx hb dL_1082 rfl (lv_at hl 1 rfl) ?_
    refine lv_iload hx hb dL_1083 (lv_at hl 5 rfl) ?_
    refine lv_iconst (v := (1 : Int32)) hx hb dL_1085 (by decide) ?_
    refine lv_iadd hx hb dL_1086 ?_
    refine va_sld hx hb hX hbl hbA hW.2.2.2.1 (hin (1 : Int32) (by decide) (by decide)) dL_1087 ?_
    refine lv_aload_n hx hb dL_1088 rfl (lv_at hl 1 rfl) ?_
    refine lv_iload hx hb dL_1089 (lv_at hl 5 rfl) ?_
    refine lv_iconst (v := (2 : Int32)) hx hb dL_1091 (by decide) ?_
    refine lv_iadd hx hb dL_1092 ?_
    refine va_sld hx hb hX hbl hbA hW.2.2.2.1 (hin (2 : Int32) (by decide) (by decide)) dL_1093 ?_
    refine lv_aload_n hx hb dL_1094 rfl (lv_at hl 1 rfl) ?_
    refine lv_iload hx hb dL_1095 (lv_at hl 5 rfl) ?_
    refine lv_iconst (v := (3 : Int32)) hx hb dL_1097 (by decide) ?_
    refine lv_iadd hx hb dL_1098 ?_
    refine va_sld hx hb hX hbl hbA hW.2.2.2.1 (hin (3 : Int32) (by decide) (by decide)) dL_1099 ?_
    refine lv_i2l (v := (xs (x4 + (3 : Int32)).toNatClampNeg).toInt64) hx hb dL_1100 rfl ?_
    refine lv_bipush (v := (32 : Int32)) hx hb dL_1101 (by decide) ?_
    refine lv_lshl (v := ((xs (x4 + (3 : Int32)).toNatClampNeg).toInt64 <<< ((32 : Int32).toInt64 &&& 63))) hx hb dL_1103 rfl ?_
    refine lv_aload_n hx hb dL_1104 rfl (lv_at hl 1 rfl) ?_
    refine lv_iload hx hb dL_1105 (lv_at hl 5 rfl) ?_
    refine lv_iconst (v := (4 : Int32)) hx hb dL_1107 (by decide) ?_
    refine lv_iadd hx hb dL_1108 ?_
    refine va_sld hx hb hX hbl hbA hW.2.2.2.1 (hin (4 : Int32) (by decide) (by decide)) dL_1109 ?_
    refine lv_i2l (v := (xs (x4 + (4 : Int32)).toNatClampNeg).toInt64) hx hb dL_1110 rfl ?_
    refine lv_ldc2 (own := RX10) (v := (4294967295 : Int64)) hx hb hown (hG _ q_7_194) dL_1111 ?_
    refine lv_land hx hb dL_1114 ?_
    refine lv_lor hx hb dL_1115 ?_
    have hW := toM hW
    refine gw_Vv (As := [.int (xs (x4 + (1 : Int32)).toNatClampNeg), .int (xs (x4 + (2 : Int32)).toNatClampNeg), .long (((xs (x4 + (3 : Int32)).toNatClampNeg).toInt64 <<< ((32 : Int32).toInt64 &&& 63)) ||| ((xs (x4 + (4 : Int32)).toNatClampNeg).toInt64 &&& (4294967295 : Int64)))]) (mc' := cells + 3) (ms' := slots + 18) F hW (mMX12_stamp_0 h2) (cwV 3 hts (gT_V q_7_189 q_7_190 q_7_191 q_1_12 q_7_192) rfl rfl rfl hdX12_stamp ⟨(Nat.le_of_ble_eq_true rfl), (Nat.le_of_ble_eq_true rfl)⟩) 0 10 (aM_0 _ _) rfl rfl hl.1 rfl (Nat.le_of_ble_eq_true rfl) dL_1116 ⟨by show cells + 3 + 0 ≤ 601024; omega, by show slots + 18 + 0 ≤ 7293000; omega⟩ rfl rfl (fun H locs hW => ?_)
    have hW := toX hW
    refine lv_aload_n hx hb dL_1119 rfl (lv_at hl 3 rfl) ?_
    have hW := toM hW
    refine gw_Vi (As := []) (mc' := cells + 3) (ms' := slots + 18) F hW (mMX12_thrown_0 (rfl : fMX12_thrown_0 (jn J) o2 = some (o2.1 0, o2))) (cwV 0 hts (gT_V q_6_214 q_6_215 q_6_216 q_1_12 q_6_217) rfl rfl rfl hdX12_thrown ⟨(Nat.le_of_ble_eq_true rfl), (Nat.le_of_ble_eq_true rfl)⟩) 0 10 (aM_0 _ _) rfl rfl hl.1 rfl (Nat.le_of_ble_eq_true rfl) dL_1120 ⟨by show cells + 3 + 0 ≤ 601024; omega, by show slots + 18 + 0 ≤ 7293000; omega⟩ rfl rfl (fun H locs hW => ?_)
    have hW := toX hW
    refine lv_iload hx hb dL_1123 (lv_at hl 0 rfl) ?_
    refine lv_icmp_eq (tgt := 1130) hx hb dL_1125 (by decide) (fun c1125 => ?_) (fun c1125 => absurd (e2) c1125)
    refine lv_goto (tgt := 1133) hx hb dL_1130 (by decide) ?_
    exact W.widen (k := cells + 5) (n := slots + 25) (by omega) (by omega) (nxt _ _ v H locs ls hI (lv_sub hl [1, 2, 3, 4, 5] rfl) hW)
