abbrev rL_format : Room := { frames := 7, cells := 1, slots := 6, locals := 168 }
set_option maxHeartbeats 4000000 in
set_option maxRecDepth 100000 in
theorem hL_format {l : Launch} (hl9 : l.stackTraces = false) {J : LJ} {τ σ : XS} {v : Nat → Int64} {p0 : Int32} {p1 : Int32} {p2 : Int32} {o : Nat × Int32 × XS} {k : Int32} (hf : fXX0_format_0 (jn J) p0 p1 p2 σ = some o) (hk : (o.1 = 0 ∧ k = 0) ∨ (o.1 = 3 ∧ k = 1)) : gh_M l J.1 vwCl (tyX (KC J τ v)) (wH J τ) yX10_format wsX10_format rL_format [.ref (ka (KC J τ v) 0), .int p0, .int p1, .int p2, .ref (jq J)] (σ, v) (k, (o.2.2, if o.1 = 0 then vp_updL v 0 o.2.1.toInt64 else v)) := by
  refine gh_body (hh := [(0, 12, 15, 13)]) (cc := cX10_format) (maxL := 6) (by decide +kernel) rfl ?_ (Nat.le_of_ble_eq_true rfl)
  intro p e s m below meth c A F hTab hZ hN hW ls hl
  have hx := F.1
  have hb := F.2.1
  have hml := F.2.2.2.1
  have hown := F.2.2.2.2.1
  have hts := F.2.2.2.2.2.1
  have hG : ∀ x ∈ gT, x.before _ s = true := fun x h => hts x (List.mem_cons_of_mem _ h)
  refine lv_aload hx hb dX10_format_0 (lv_at hl 4 rfl) ?_
  refine lv_iconst (v := (0 : Int32)) hx hb dX10_format_2 (by decide) ?_
  refine lv_aload_n hx hb dX10_format_3 rfl (lv_at hl 0 rfl) ?_
  refine lv_iload_n hx hb dX10_format_4 rfl (lv_at hl 1 rfl) ?_
  refine lv_iload_n hx hb dX10_format_5 rfl (lv_at hl 2 rfl) ?_
  refine lv_iload_n hx hb dX10_format_6 rfl (lv_at hl 3 rfl) ?_
  have hX := gH_X hW
  rcases hk with ⟨h1, rfl⟩ | ⟨h1, rfl⟩
  · refine gx_V0i (As := [.int p0, .int p1, .int p2]) (mc' := 1) (ms' := 6) F hZ hX (mXX0_format_0 (K := KC J τ v) hl9 hf) h1 (cwV 3 hts (gT_V q_4_198 q_4_199 q_4_200 q_1_1 q_4_201) rfl rfl rfl hdX0_format ⟨(Nat.le_of_ble_eq_true rfl), (Nat.le_of_ble_eq_true rfl)⟩) 0 0 (aX_0 _ _) rfl rfl hl.1 rfl (Nat.le_of_ble_eq_true rfl) dX10_format_7 ⟨(Nat.le_of_ble_eq_true rfl), (Nat.le_of_ble_eq_true rfl)⟩ rfl rfl (fun H locs hX => ?_)
    have hW := gX_H (v0 := v) hX
    refine lv_i2l (v := o.2.1.toInt64) hx hb dX10_format_10 rfl ?_
    refine gw_last (σ' := (o.2.2, vp_updL v (0 : Int32).toNatClampNeg o.2.1.toInt64)) F hW 19 8 (aH_o _ _ _) rfl (by decide) dX10_format_11 (sH_o _ _ _ _) (fun H locs hW => ?_)
    refine lv_goto (tgt := 19) hx hb dX10_format_12 (by decide) ?_
    refine lv_iconst (v := (0 : Int32)) hx hb dX10_format_19 (by decide) ?_
    exact gw_reti F hW (by rw [if_pos h1]; rfl) dX10_format_20
  · refine gx_catch (name := "java/lang/IllegalArgumentException") (As := [.int p0, .int p1, .int p2]) (mc' := 1) (ms' := 6) F hZ hX ((mXX0_format_0 (K := KC J τ v) hl9 hf s.heap.size).2 (by rw [h1]; decide)) (cwV 3 hts (gT_V q_4_198 q_4_199 q_4_200 q_1_1 q_4_201) rfl rfl rfl hdX0_format ⟨(Nat.le_of_ble_eq_true rfl), (Nat.le_of_ble_eq_true rfl)⟩) 0 0 (aX_0 _ _) rfl rfl hl.1 rfl (Nat.le_of_ble_eq_true rfl) dX10_format_7 ⟨(Nat.le_of_ble_eq_true rfl), (Nat.le_of_ble_eq_true rfl)⟩ rfl rfl [] ⟨0, 12, 15, 13⟩ [] (hTab.trans rfl) (fun _ h => absurd h List.not_mem_nil) (by decide) (by decide) (hG _ q_4_197) (by rw [h1]; exact va_Nw.use rfl (hW.1.2 _ xb_6)) (fun q H locs hX => ?_)
    have hW := gX_H (v0 := v) hX
    refine lv_astore (lv' := [(5, .ref q), (0, .ref (ka (KC J τ v) 0)), (1, .int p0), (2, .int p1), (3, .int p2), (4, .ref (jq J))]) hx hb dX10_format_15 hl (by decide) rfl (fun ls hl => ?_)
    refine lv_iconst (v := (1 : Int32)) hx hb dX10_format_17 (by decide) ?_
    exact gw_reti F hW (by rw [if_neg (by rw [h1]; decide)]) dX10_format_18
abbrev rL_items : Room := { frames := 8, cells := 1, slots := 6, locals := 131 }
set_option maxHeartbeats 4000000 in
set_option maxRecDepth 100000 in
theorem hL_items {l : Launch} (hl9 : l.stackTraces = false) {J : LJ} {τ σ : XS} {v : Nat → Int64}  {o : Nat × Int32 × XS} {k : Int32} (hf : fXX0_items_0 (jn J) σ = some o) (hk : (o.1 = 0 ∧ k = 0) ∨ (o.1 = 1 ∧ k = 1)) : gh_M l J.1 vwCl (tyX (KC J τ v)) (wH J τ) yX10_items wsX10_items rL_items [.ref (ka (KC J τ v) 0), .ref (jq J)] (σ, v) (k, (o.2.2, if o.1 = 0 then vp_updL v 0 o.2.1.toInt64 else v)) := by
  refine gh_body (hh := [(0, 8, 11, 19)]) (cc := cX10_items) (maxL := 3) (by decide +kernel) rfl ?_ (Nat.le_of_ble_eq_true rfl)
  intro p e s m below meth c A F hTab hZ hN hW ls hl
  have hx := F.1
  have hb := F.2.1
  have hml := F.2.2.2.1
  have hown := F.2.2.2.2.1
  have hts := F.2.2.2.2.2.1
  have hG : ∀ x ∈ gT, x.before _ s = true := fun x h => hts x (List.mem_cons_of_mem _ h)
  refine lv_aload_n hx hb dX10_items_0 rfl (lv_at hl 1 rfl) ?_
  refine lv_iconst (v := (0 : Int32)) hx hb dX10_items_1 (by decide) ?_
  refine lv_aload_n hx hb dX10_items_2 rfl (lv_at hl 0 rfl) ?_
  have hX := gH_X hW
  rcases hk with ⟨h1, rfl⟩ | ⟨h1, rfl⟩
  · refine gx_V0i (As := []) (mc' := 1) (ms' := 6) F hZ hX (mXX0_items_0 (K := KC J τ v) hl9 hf) h1 (cwV 0 hts (gT_V q_5_62 q_5_63 q_5_64 q_1_1 q_5_65) rfl rfl rfl hdX0_items ⟨(Nat.le_of_ble_eq_true rfl), (Nat.le_of_ble_eq_true rfl)⟩) 0 0 (aX_0 _ _) rfl rfl hl.1 rfl (Nat.le_of_ble_eq_true rfl) dX10_items_3 ⟨(Nat.le_of_ble_eq_true rfl), (Nat.le_of_ble_eq_true rfl)⟩ rfl rfl (fun H locs hX => ?_)
    have hW := gX_H (v0 := v) hX
    refine lv_i2l (v := o.2.1.toInt64) hx hb dX10_items_6 rfl ?_
    refine gw_last (σ' := (o.2.2, vp_updL v (0 : Int32).toNatClampNeg o.2.1.toInt64)) F hW 19 8 (aH_o _ _ _) rfl (by decide) dX10_items_7 (sH_o _ _ _ _) (fun H locs hW => ?_)
    refine lv_goto (tgt := 14) hx hb dX10_items_8 (by decide) ?_
    refine lv_iconst (v := (0 : Int32)) hx hb dX10_items_14 (by decide) ?_
    exact gw_reti F hW (by rw [if_pos h1]; rfl) dX10_items_15
  · refine gx_catch (name := "java/lang/IllegalStateException") (As := []) (mc' := 1) (ms' := 6) F hZ hX ((mXX0_items_0 (K := KC J τ v) hl9 hf s.heap.size).2 (by rw [h1]; decide)) (cwV 0 hts (gT_V q_5_62 q_5_63 q_5_64 q_1_1 q_5_65) rfl rfl rfl hdX0_items ⟨(Nat.le_of_ble_eq_true rfl), (Nat.le_of_ble_eq_true rfl)⟩) 0 0 (aX_0 _ _) rfl rfl hl.1 rfl (Nat.le_of_ble_eq_true rfl) dX10_items_3 ⟨(Nat.le_of_ble_eq_true rfl), (Nat.le_of_ble_eq_true rfl)⟩ rfl rfl [] ⟨0, 8, 11, 19⟩ [] (hTab.trans rfl) (fun _ h => absurd h List.not_mem_nil) (by decide) (by decide) (hG _ q_5_61) (by rw [h1]; exact va_Nw.use rfl (hW.1.2 _ xb_4)) (fun q H locs hX => ?_)
    have hW := gX_H (v0 := v) hX
    refine lv_astore_n (lv' := [(2, .ref q), (0, .ref (ka (KC J τ v) 0)), (1, .ref (jq J))]) hx hb dX10_items_11 rfl hl (by decide) rfl (fun ls hl => ?_)
    refine lv_iconst (v := (1 : Int32)) hx hb dX10_items_12 (by decide) ?_
    exact gw_reti F hW (by rw [if_neg (by rw [h1]; decide)]) dX10_items_13
abbrev rL_letter : Room := { frames := 9, cells := 2, slots := 12, locals := 155 }
set_option maxHeartbeats 4000000 in
set_option maxRecDepth 100000 in
theorem hL_letter {l : Launch} (hl9 : l.stackTraces = false) {J : LJ} {τ σ : XS} {v : Nat → Int64} {p0 : Int32} {p1 : Int32} {o : Nat × Int32 × XS} {k : Int32} (hf : fXX0_letter_0 (jn J) p0 p1 σ = some o) (hk : (o.1 = 0 ∧ k = 0) ∨ (o.1 = 1 ∧ k = 1) ∨ (o.1 = 2 ∧ k = 2)) : gh_M l J.1 vwCl (tyX (KC J τ v)) (wH J τ) yX10_letter wsX10_letter rL_letter [.ref (ka (KC J τ v) 0), .int p0, .int p1, .ref (jq J)] (σ, v) (k, (o.2.2, if o.1 = 0 then vp_updL v 0 o.2.1.toInt64 else v)) := by
  refine gh_body (hh := [(0, 10, 13, 19), (0, 10, 17, 25)]) (cc := cX10_letter) (maxL := 5) (by decide +kernel) rfl ?_ (Nat.le_of_ble_eq_true rfl)
  intro p e s m below meth c A F hTab hZ hN hW ls hl
  have hx := F.1
  have hb := F.2.1
  have hml := F.2.2.2.1
  have hown := F.2.2.2.2.1
  have hts := F.2.2.2.2.2.1
  have hG : ∀ x ∈ gT, x.before _ s = true := fun x h => hts x (List.mem_cons_of_mem _ h)
  refine lv_aload_n hx hb dX10_letter_0 rfl (lv_at hl 3 rfl) ?_
  refine lv_iconst (v := (0 : Int32)) hx hb dX10_letter_1 (by decide) ?_
  refine lv_aload_n hx hb dX10_letter_2 rfl (lv_at hl 0 rfl) ?_
  refine lv_iload_n hx hb dX10_letter_3 rfl (lv_at hl 1 rfl) ?_
  refine lv_iload_n hx hb dX10_letter_4 rfl (lv_at hl 2 rfl) ?_
  have hX := gH_X hW
  rcases hk with ⟨h1, rfl⟩ | ⟨h1, rfl⟩ | ⟨h1, rfl⟩
  · refine gx_V0i (As := [.int p0, .int p1]) (mc' := 2) (ms' := 12) F hZ hX (mXX0_letter_0 (K := KC J τ v) hl9 hf) h1 (cwV 2 hts (gT_V q_5_95 q_5_96 q_5_97 q_1_1 q_5_98) rfl rfl rfl hdX0_letter ⟨(Nat.le_of_ble_eq_true rfl), (Nat.le_of_ble_eq_true rfl)⟩) 0 0 (aX_0 _ _) rfl rfl hl.1 rfl (Nat.le_of_ble_eq_true rfl) dX10_letter_5 ⟨(Nat.le_of_ble_eq_true rfl), (Nat.le_of_ble_eq_true rfl)⟩ rfl rfl (fun H locs hX => ?_)
    have hW := gX_H (v0 := v) hX
    refine lv_i2l (v := o.2.1.toInt64) hx hb dX10_letter_8 rfl ?_
    refine gw_last (σ' := (o.2.2, vp_updL v (0 : Int32).toNatClampNeg o.2.1.toInt64)) F hW 19 8 (aH_o _ _ _) rfl (by decide) dX10_letter_9 (sH_o _ _ _ _) (fun H locs hW => ?_)
    refine lv_goto (tgt := 21) hx hb dX10_letter_10 (by decide) ?_
    refine lv_iconst (v := (0 : Int32)) hx hb dX10_letter_21 (by decide) ?_
    exact gw_reti F hW (by rw [if_pos h1]; rfl) dX10_letter_22
  · refine gx_catch (name := "java/lang/IllegalStateException") (As := [.int p0, .int p1]) (mc' := 2) (ms' := 12) F hZ hX ((mXX0_letter_0 (K := KC J τ v) hl9 hf s.heap.size).2 (by rw [h1]; decide)) (cwV 2 hts (gT_V q_5_95 q_5_96 q_5_97 q_1_1 q_5_98) rfl rfl rfl hdX0_letter ⟨(Nat.le_of_ble_eq_true rfl), (Nat.le_of_ble_eq_true rfl)⟩) 0 0 (aX_0 _ _) rfl rfl hl.1 rfl (Nat.le_of_ble_eq_true rfl) dX10_letter_5 ⟨(Nat.le_of_ble_eq_true rfl), (Nat.le_of_ble_eq_true rfl)⟩ rfl rfl [] ⟨0, 10, 13, 19⟩ [⟨0, 10, 17, 25⟩] (hTab.trans rfl) (fun _ h => absurd h List.not_mem_nil) (by decide) (by decide) (hG _ q_5_61) (by rw [h1]; exact va_Nw.use rfl (hW.1.2 _ xb_4)) (fun q H locs hX => ?_)
    have hW := gX_H (v0 := v) hX
    refine lv_astore (lv' := [(4, .ref q), (0, .ref (ka (KC J τ v) 0)), (1, .int p0), (2, .int p1), (3, .ref (jq J))]) hx hb dX10_letter_13 hl (by decide) rfl (fun ls hl => ?_)
    refine lv_iconst (v := (1 : Int32)) hx hb dX10_letter_15 (by decide) ?_
    exact gw_reti F hW (by rw [if_neg (by rw [h1]; decide)]) dX10_letter_16
  · refine gx_catch (name := "java/lang/IndexOutOfBoundsException") (As := [.int p0, .int p1]) (mc' := 2) (ms' := 12) F hZ hX ((mXX0_letter_0 (K := KC J τ v) hl9 hf s.heap.size).2 (by rw [h1]; decide)) (cwV 2 hts (gT_V q_5_95 q_5_96 q_5_97 q_1_1 q_5_98) rfl rfl rfl hdX0_letter ⟨(Nat.le_of_ble_eq_true rfl), (Nat.le_of_ble_eq_true rfl)⟩) 0 0 (aX_0 _ _) rfl rfl hl.1 rfl (Nat.le_of_ble_eq_true rfl) dX10_letter_5 ⟨(Nat.le_of_ble_eq_true rfl), (Nat.le_of_ble_eq_true rfl)⟩ rfl rfl [⟨0, 10, 13, 19⟩] ⟨0, 10, 17, 25⟩ [] (hTab.trans rfl) (List.forall_mem_cons.mpr ⟨⟨by decide, "java/lang/IllegalStateException", hG _ q_5_61, by rw [h1]; exact hN _ (by decide) _ (by decide) (by decide)⟩, fun _ h => absurd h List.not_mem_nil⟩) (by decide) (by decide) (hG _ q_5_94) (by rw [h1]; exact va_Nw.use rfl (hW.1.2 _ xb_5)) (fun q H locs hX => ?_)
    have hW := gX_H (v0 := v) hX
    refine lv_astore (lv' := [(4, .ref q), (0, .ref (ka (KC J τ v) 0)), (1, .int p0), (2, .int p1), (3, .ref (jq J))]) hx hb dX10_letter_17 hl (by decide) rfl (fun ls hl => ?_)
    refine lv_iconst (v := (2 : Int32)) hx hb dX10_letter_19 (by decide) ?_
    exact gw_reti F hW (by rw [if_neg (by rw [h1]; decide)]) dX10_letter_20
abbrev rL_about : Room := { frames := 9, cells := 3, slots := 18, locals := 156 }
set_option maxHeartbeats 4000000 in
set_option maxRecDepth 100000 in
theorem hL_about {l : Launch} (hl9 : l.stackTraces = false) {J : LJ} {τ σ : XS} {v : Nat → Int64} {p0 : Int32} {p1 : Int32} {o : Nat × Int64 × XS} {k : Int32} (hf : fXX0_about_0 (jn J) p0 p1 σ = some o) (hk : (o.1 = 0 ∧ k = 0) ∨ (o.1 = 1 ∧ k = 1) ∨ (o.1 = 2 ∧ k = 2) ∨ (o.1 = 3 ∧ k = 3)) : gh_M l J.1 vwCl (tyX (KC J τ v)) (wH J τ) yX10_about wsX10_about rL_about [.ref (ka (KC J τ v) 0), .int p0, .int p1, .ref (jq J)] (σ, v) (k, (o.2.2, if o.1 = 0 then vp_updL v 0 o.2.1 else v)) := by
  refine gh_body (hh := [(0, 9, 12, 19), (0, 9, 16, 25), (0, 9, 20, 13)]) (cc := cX10_about) (maxL := 5) (by decide +kernel) rfl ?_ (Nat.le_of_ble_eq_true rfl)
  intro p e s m below meth c A F hTab hZ hN hW ls hl
  have hx := F.1
  have hb := F.2.1
  have hml := F.2.2.2.1
  have hown := F.2.2.2.2.1
  have hts := F.2.2.2.2.2.1
  have hG : ∀ x ∈ gT, x.before _ s = true := fun x h => hts x (List.mem_cons_of_mem _ h)
  refine lv_aload_n hx hb dX10_about_0 rfl (lv_at hl 3 rfl) ?_
  refine lv_iconst (v := (0 : Int32)) hx hb dX10_about_1 (by decide) ?_
  refine lv_aload_n hx hb dX10_about_2 rfl (lv_at hl 0 rfl) ?_
  refine lv_iload_n hx hb dX10_about_3 rfl (lv_at hl 1 rfl) ?_
  refine lv_iload_n hx hb dX10_about_4 rfl (lv_at hl 2 rfl) ?_
  have hX := gH_X hW
  rcases hk with ⟨h1, rfl⟩ | ⟨h1, rfl⟩ | ⟨h1, rfl⟩ | ⟨h1, rfl⟩
  · refine gx_V0l (As := [.int p0, .int p1]) (mc' := 3) (ms' := 18) F hZ hX (mXX0_about_0 (K := KC J τ v) hl9 hf) h1 (cwV 2 hts (gT_V q_5_124 q_5_125 q_5_126 q_1_1 q_5_127) rfl rfl rfl hdX0_about ⟨(Nat.le_of_ble_eq_true rfl), (Nat.le_of_ble_eq_true rfl)⟩) 0 0 (aX_0 _ _) rfl rfl hl.1 rfl (Nat.le_of_ble_eq_true rfl) dX10_about_5 ⟨(Nat.le_of_ble_eq_true rfl), (Nat.le_of_ble_eq_true rfl)⟩ rfl rfl (fun H locs hX => ?_)
    have hW := gX_H (v0 := v) hX
    refine gw_last (σ' := (o.2.2, vp_updL v (0 : Int32).toNatClampNeg o.2.1)) F hW 19 8 (aH_o _ _ _) rfl (by decide) dX10_about_8 (sH_o _ _ _ _) (fun H locs hW => ?_)
    refine lv_goto (tgt := 24) hx hb dX10_about_9 (by decide) ?_
    refine lv_iconst (v := (0 : Int32)) hx hb dX10_about_24 (by decide) ?_
    exact gw_reti F hW (by rw [if_pos h1]; rfl) dX10_about_25
  · refine gx_catch (name := "java/lang/IllegalStateException") (As := [.int p0, .int p1]) (mc' := 3) (ms' := 18) F hZ hX ((mXX0_about_0 (K := KC J τ v) hl9 hf s.heap.size).2 (by rw [h1]; decide)) (cwV 2 hts (gT_V q_5_124 q_5_125 q_5_126 q_1_1 q_5_127) rfl rfl rfl hdX0_about ⟨(Nat.le_of_ble_eq_true rfl), (Nat.le_of_ble_eq_true rfl)⟩) 0 0 (aX_0 _ _) rfl rfl hl.1 rfl (Nat.le_of_ble_eq_true rfl) dX10_about_5 ⟨(Nat.le_of_ble_eq_true rfl), (Nat.le_of_ble_eq_true rfl)⟩ rfl rfl [] ⟨0, 9, 12, 19⟩ [⟨0, 9, 16, 25⟩, ⟨0, 9, 20, 13⟩] (hTab.trans rfl) (fun _ h => absurd h List.not_mem_nil) (by decide) (by decide) (hG _ q_5_61) (by rw [h1]; exact va_Nw.use rfl (hW.1.2 _ xb_4)) (fun q H locs hX => ?_)
    have hW := gX_H (v0 := v) hX
    refine lv_astore (lv' := [(4, .ref q), (0, .ref (ka (KC J τ v) 0)), (1, .int p0), (2, .int p1), (3, .ref (jq J))]) hx hb dX10_about_12 hl (by decide) rfl (fun ls hl => ?_)
    refine lv_iconst (v := (1 : Int32)) hx hb dX10_about_14 (by decide) ?_
    exact gw_reti F hW (by rw [if_neg (by rw [h1]; decide)]) dX10_about_15
  · refine gx_catch (name := "java/lang/IndexOutOfBoundsException") (As := [.int p0, .int p1]) (mc' := 3) (ms' := 18) F hZ hX ((mXX0_about_0 (K := KC J τ v) hl9 hf s.heap.size).2 (by rw [h1]; decide)) (cwV 2 hts (gT_V q_5_124 q_5_125 q_5_126 q_1_1 q_5_127) rfl rfl rfl hdX0_about ⟨(Nat.le_of_ble_eq_true rfl), (Nat.le_of_ble_eq_true rfl)⟩) 0 0 (aX_0 _ _) rfl rfl hl.1 rfl (Nat.le_of_ble_eq_true rfl) dX10_about_5 ⟨(Nat.le_of_ble_eq_true rfl), (Nat.le_of_ble_eq_true rfl)⟩ rfl rfl [⟨0, 9, 12, 19⟩] ⟨0, 9, 16, 25⟩ [⟨0, 9, 20, 13⟩] (hTab.trans rfl) (List.forall_mem_cons.mpr ⟨⟨by decide, "java/lang/IllegalStateException", hG _ q_5_61, by rw [h1]; exact hN _ (by decide) _ (by decide) (by decide)⟩, fun _ h => absurd h List.not_mem_nil⟩) (by decide) (by decide) (hG _ q_5_94) (by rw [h1]; exact va_Nw.use rfl (hW.1.2 _ xb_5)) (fun q H locs hX => ?_)
    have hW := gX_H (v0 := v) hX
    refine lv_astore (lv' := [(4, .ref q), (0, .ref (ka (KC J τ v) 0)), (1, .int p0), (2, .int p1), (3, .ref (jq J))]) hx hb dX10_about_16 hl (by decide) rfl (fun ls hl => ?_)
    refine lv_iconst (v := (2 : Int32)) hx hb dX10_about_18 (by decide) ?_
    exact gw_reti F hW (by rw [if_neg (by rw [h1]; decide)]) dX10_about_19
  · refine gx_catch (name := "java/lang/IllegalArgumentException") (As := [.int p0, .int p1]) (mc' := 3) (ms' := 18) F hZ hX ((mXX0_about_0 (K := KC J τ v) hl9 hf s.heap.size).2 (by rw [h1]; decide)) (cwV 2 hts (gT_V q_5_124 q_5_125 q_5_126 q_1_1 q_5_127) rfl rfl rfl hdX0_about ⟨(Nat.le_of_ble_eq_true rfl), (Nat.le_of_ble_eq_true rfl)⟩) 0 0 (aX_0 _ _) rfl rfl hl.1 rfl (Nat.le_of_ble_eq_true rfl) dX10_about_5 ⟨(Nat.le_of_ble_eq_true rfl), (Nat.le_of_ble_eq_true rfl)⟩ rfl rfl [⟨0, 9, 12, 19⟩, ⟨0, 9, 16, 25⟩] ⟨0, 9, 20, 13⟩ [] (hTab.trans rfl) (List.forall_mem_cons.mpr ⟨⟨by decide, "java/lang/IllegalStateException", hG _ q_5_61, by rw [h1]; exact hN _ (by decide) _ (by decide) (by decide)⟩, List.forall_mem_cons.mpr ⟨⟨by decide, "java/lang/IndexOutOfBoundsException", hG _ q_5_94, by rw [h1]; exact hN _ (by decide) _ (by decide) (by decide)⟩, fun _ h => absurd h List.not_mem_nil⟩⟩) (by decide) (by decide) (hG _ q_4_197) (by rw [h1]; exact va_Nw.use rfl (hW.1.2 _ xb_6)) (fun q H locs hX => ?_)
    have hW := gX_H (v0 := v) hX
    refine lv_astore (lv' := [(4, .ref q), (0, .ref (ka (KC J τ v) 0)), (1, .int p0), (2, .int p1), (3, .ref (jq J))]) hx hb dX10_about_20 hl (by decide) rfl (fun ls hl => ?_)
    refine lv_iconst (v := (3 : Int32)) hx hb dX10_about_22 (by decide) ?_
    exact gw_reti F hW (by rw [if_neg (by rw [h1]; decide)]) dX10_about_23
abbrev rL_content : Room := { frames := 9, cells := 2, slots := 12, locals := 156 }
set_option maxHeartbeats 4000000 in
set_option maxRecDepth 100000 in
theorem hL_content {l : Launch} (hl9 : l.stackTraces = false) {J : LJ} {τ σ : XS} {v : Nat → Int64} {p0 : Int32} {p1 : Int32} {o : Nat × Int32 × XS} {k : Int32} (hf : fXX0_content_0 (jn J) p0 p1 σ = some o) (hk : (o.1 = 0 ∧ k = 0) ∨ (o.1 = 1 ∧ k = 1) ∨ (o.1 = 2 ∧ k = 2)) : gh_M l J.1 vwCl (tyX (KC J τ v)) (wH J τ) yX10_content wsX10_content rL_content [.ref (ka (KC J τ v) 0), .int p0, .int p1, .ref (jq J)] (σ, v) (k, (o.2.2, if o.1 = 0 then vp_updL v 0 o.2.1.toInt64 else v)) := by
  refine gh_body (hh := [(0, 10, 13, 19), (0, 10, 17, 25)]) (cc := cX10_content) (maxL := 5) (by decide +kernel) rfl ?_ (Nat.le_of_ble_eq_true rfl)
  intro p e s m below meth c A F hTab hZ hN hW ls hl
  have hx := F.1
  have hb := F.2.1
  have hml := F.2.2.2.1
  have hown := F.2.2.2.2.1
  have hts := F.2.2.2.2.2.1
  have hG : ∀ x ∈ gT, x.before _ s = true := fun x h => hts x (List.mem_cons_of_mem _ h)
  refine lv_aload_n hx hb dX10_content_0 rfl (lv_at hl 3 rfl) ?_
  refine lv_iconst (v := (0 : Int32)) hx hb dX10_content_1 (by decide) ?_
  refine lv_aload_n hx hb dX10_content_2 rfl (lv_at hl 0 rfl) ?_
  refine lv_iload_n hx hb dX10_content_3 rfl (lv_at hl 1 rfl) ?_
  refine lv_iload_n hx hb dX10_content_4 rfl (lv_at hl 2 rfl) ?_
  have hX := gH_X hW
  rcases hk with ⟨h1, rfl⟩ | ⟨h1, rfl⟩ | ⟨h1, rfl⟩
  · refine gx_V0i (As := [.int p0, .int p1]) (mc' := 2) (ms' := 12) F hZ hX (mXX0_content_0 (K := KC J τ v) hl9 hf) h1 (cwV 2 hts (gT_V q_5_141 q_5_142 q_5_143 q_1_1 q_5_144) rfl rfl rfl hdX0_content ⟨(Nat.le_of_ble_eq_true rfl), (Nat.le_of_ble_eq_true rfl)⟩) 0 0 (aX_0 _ _) rfl rfl hl.1 rfl (Nat.le_of_ble_eq_true rfl) dX10_content_5 ⟨(Nat.le_of_ble_eq_true rfl), (Nat.le_of_ble_eq_true rfl)⟩ rfl rfl (fun H locs hX => ?_)
    have hW := gX_H (v0 := v) hX
    refine lv_i2l (v := o.2.1.toInt64) hx hb dX10_content_8 rfl ?_
    refine gw_last (σ' := (o.2.2, vp_updL v (0 : Int32).toNatClampNeg o.2.1.toInt64)) F hW 19 8 (aH_o _ _ _) rfl (by decide) dX10_content_9 (sH_o _ _ _ _) (fun H locs hW => ?_)
    refine lv_goto (tgt := 21) hx hb dX10_content_10 (by decide) ?_
    refine lv_iconst (v := (0 : Int32)) hx hb dX10_content_21 (by decide) ?_
    exact gw_reti F hW (by rw [if_pos h1]; rfl) dX10_content_22
  · refine gx_catch (name := "java/lang/IllegalStateException") (As := [.int p0, .int p1]) (mc' := 2) (ms' := 12) F hZ hX ((mXX0_content_0 (K := KC J τ v) hl9 hf s.heap.size).2 (by rw [h1]; decide)) (cwV 2 hts (gT_V q_5_141 q_5_142 q_5_143 q_1_1 q_5_144) rfl rfl rfl hdX0_content ⟨(Nat.le_of_ble_eq_true rfl), (Nat.le_of_ble_eq_true rfl)⟩) 0 0 (aX_0 _ _) rfl rfl hl.1 rfl (Nat.le_of_ble_eq_true rfl) dX10_content_5 ⟨(Nat.le_of_ble_eq_true rfl), (Nat.le_of_ble_eq_true rfl)⟩ rfl rfl [] ⟨0, 10, 13, 19⟩ [⟨0, 10, 17, 25⟩] (hTab.trans rfl) (fun _ h => absurd h List.not_mem_nil) (by decide) (by decide) (hG _ q_5_61) (by rw [h1]; exact va_Nw.use rfl (hW.1.2 _ xb_4)) (fun q H locs hX => ?_)
    have hW := gX_H (v0 := v) hX
    refine lv_astore (lv' := [(4, .ref q), (0, .ref (ka (KC J τ v) 0)), (1, .int p0), (2, .int p1), (3, .ref (jq J))]) hx hb dX10_content_13 hl (by decide) rfl (fun ls hl => ?_)
    refine lv_iconst (v := (1 : Int32)) hx hb dX10_content_15 (by decide) ?_
    exact gw_reti F hW (by rw [if_neg (by rw [h1]; decide)]) dX10_content_16
  · refine gx_catch (name := "java/lang/IndexOutOfBoundsException") (As := [.int p0, .int p1]) (mc' := 2) (ms' := 12) F hZ hX ((mXX0_content_0 (K := KC J τ v) hl9 hf s.heap.size).2 (by rw [h1]; decide)) (cwV 2 hts (gT_V q_5_141 q_5_142 q_5_143 q_1_1 q_5_144) rfl rfl rfl hdX0_content ⟨(Nat.le_of_ble_eq_true rfl), (Nat.le_of_ble_eq_true rfl)⟩) 0 0 (aX_0 _ _) rfl rfl hl.1 rfl (Nat.le_of_ble_eq_true rfl) dX10_content_5 ⟨(Nat.le_of_ble_eq_true rfl), (Nat.le_of_ble_eq_true rfl)⟩ rfl rfl [⟨0, 10, 13, 19⟩] ⟨0, 10, 17, 25⟩ [] (hTab.trans rfl) (List.forall_mem_cons.mpr ⟨⟨by decide, "java/lang/IllegalStateException", hG _ q_5_61, by rw [h1]; exact hN _ (by decide) _ (by decide) (by decide)⟩, fun _ h => absurd h List.not_mem_nil⟩) (by decide) (by decide) (hG _ q_5_94) (by rw [h1]; exact va_Nw.use rfl (hW.1.2 _ xb_5)) (fun q H locs hX => ?_)
    have hW := gX_H (v0 := v) hX
    refine lv_astore (lv' := [(4, .ref q), (0, .ref (ka (KC J τ v) 0)), (1, .int p0), (2, .int p1), (3, .ref (jq J))]) hx hb dX10_content_17 hl (by decide) rfl (fun ls hl => ?_)
    refine lv_iconst (v := (2 : Int32)) hx hb dX10_content_19 (by decide) ?_
    exact gw_reti F hW (by rw [if_neg (by rw [h1]; decide)]) dX10_content_20
abbrev rL_enter : Room := { frames := 9, cells := 3, slots := 18, locals := 155 }
set_option maxHeartbeats 4000000 in
set_option maxRecDepth 100000 in
theorem hL_enter {l : Launch} (hl9 : l.stackTraces = false) {J : LJ} {τ σ : XS} {v : Nat → Int64} {p0 : Int32} {o : Nat × Int32 × XS} {k : Int32} (hf : fXX0_enter_0 (jn J) p0 σ = some o) (hk : (o.1 = 0 ∧ k = 0) ∨ (o.1 = 1 ∧ k = 1) ∨ (o.1 = 2 ∧ k = 2) ∨ (o.1 = 3 ∧ k = 3)) : gh_M l J.1 vwCl (tyX (KC J τ v)) (wH J τ) yX10_enter wsX10_enter rL_enter [.ref (ka (KC J τ v) 0), .int p0, .ref (jq J)] (σ, v) (k, (o.2.2, if o.1 = 0 then vp_updL v 0 o.2.1.toInt64 else v)) := by
  refine gh_body (hh := [(0, 9, 12, 19), (0, 9, 15, 25), (0, 9, 18, 13)]) (cc := cX10_enter) (maxL := 4) (by decide +kernel) rfl ?_ (Nat.le_of_ble_eq_true rfl)
  intro p e s m below meth c A F hTab hZ hN hW ls hl
  have hx := F.1
  have hb := F.2.1
  have hml := F.2.2.2.1
  have hown := F.2.2.2.2.1
  have hts := F.2.2.2.2.2.1
  have hG : ∀ x ∈ gT, x.before _ s = true := fun x h => hts x (List.mem_cons_of_mem _ h)
  refine lv_aload_n hx hb dX10_enter_0 rfl (lv_at hl 2 rfl) ?_
  refine lv_iconst (v := (0 : Int32)) hx hb dX10_enter_1 (by decide) ?_
  refine lv_aload_n hx hb dX10_enter_2 rfl (lv_at hl 0 rfl) ?_
  refine lv_iload_n hx hb dX10_enter_3 rfl (lv_at hl 1 rfl) ?_
  have hX := gH_X hW
  rcases hk with ⟨h1, rfl⟩ | ⟨h1, rfl⟩ | ⟨h1, rfl⟩ | ⟨h1, rfl⟩
  · refine gx_V0i (As := [.int p0]) (mc' := 3) (ms' := 18) F hZ hX (mXX0_enter_0 (K := KC J τ v) hl9 hf) h1 (cwV 1 hts (gT_V q_5_149 q_5_150 q_5_151 q_1_1 q_5_152) rfl rfl rfl hdX0_enter ⟨(Nat.le_of_ble_eq_true rfl), (Nat.le_of_ble_eq_true rfl)⟩) 0 0 (aX_0 _ _) rfl rfl hl.1 rfl (Nat.le_of_ble_eq_true rfl) dX10_enter_4 ⟨(Nat.le_of_ble_eq_true rfl), (Nat.le_of_ble_eq_true rfl)⟩ rfl rfl (fun H locs hX => ?_)
    have hW := gX_H (v0 := v) hX
    refine lv_i2l (v := o.2.1.toInt64) hx hb dX10_enter_7 rfl ?_
    refine gw_last (σ' := (o.2.2, vp_updL v (0 : Int32).toNatClampNeg o.2.1.toInt64)) F hW 19 8 (aH_o _ _ _) rfl (by decide) dX10_enter_8 (sH_o _ _ _ _) (fun H locs hW => ?_)
    refine lv_goto (tgt := 21) hx hb dX10_enter_9 (by decide) ?_
    refine lv_iconst (v := (0 : Int32)) hx hb dX10_enter_21 (by decide) ?_
    exact gw_reti F hW (by rw [if_pos h1]; rfl) dX10_enter_22
  · refine gx_catch (name := "java/lang/IllegalStateException") (As := [.int p0]) (mc' := 3) (ms' := 18) F hZ hX ((mXX0_enter_0 (K := KC J τ v) hl9 hf s.heap.size).2 (by rw [h1]; decide)) (cwV 1 hts (gT_V q_5_149 q_5_150 q_5_151 q_1_1 q_5_152) rfl rfl rfl hdX0_enter ⟨(Nat.le_of_ble_eq_true rfl), (Nat.le_of_ble_eq_true rfl)⟩) 0 0 (aX_0 _ _) rfl rfl hl.1 rfl (Nat.le_of_ble_eq_true rfl) dX10_enter_4 ⟨(Nat.le_of_ble_eq_true rfl), (Nat.le_of_ble_eq_true rfl)⟩ rfl rfl [] ⟨0, 9, 12, 19⟩ [⟨0, 9, 15, 25⟩, ⟨0, 9, 18, 13⟩] (hTab.trans rfl) (fun _ h => absurd h List.not_mem_nil) (by decide) (by decide) (hG _ q_5_61) (by rw [h1]; exact va_Nw.use rfl (hW.1.2 _ xb_4)) (fun q H locs hX => ?_)
    have hW := gX_H (v0 := v) hX
    refine lv_astore_n (lv' := [(3, .ref q), (0, .ref (ka (KC J τ v) 0)), (1, .int p0), (2, .ref (jq J))]) hx hb dX10_enter_12 rfl hl (by decide) rfl (fun ls hl => ?_)
    refine lv_iconst (v := (1 : Int32)) hx hb dX10_enter_13 (by decide) ?_
    exact gw_reti F hW (by rw [if_neg (by rw [h1]; decide)]) dX10_enter_14
  · refine gx_catch (name := "java/lang/IndexOutOfBoundsException") (As := [.int p0]) (mc' := 3) (ms' := 18) F hZ hX ((mXX0_enter_0 (K := KC J τ v) hl9 hf s.heap.size).2 (by rw [h1]; decide)) (cwV 1 hts (gT_V q_5_149 q_5_150 q_5_151 q_1_1 q_5_152) rfl rfl rfl hdX0_enter ⟨(Nat.le_of_ble_eq_true rfl), (Nat.le_of_ble_eq_true rfl)⟩) 0 0 (aX_0 _ _) rfl rfl hl.1 rfl (Nat.le_of_ble_eq_true rfl) dX10_enter_4 ⟨(Nat.le_of_ble_eq_true rfl), (Nat.le_of_ble_eq_true rfl)⟩ rfl rfl [⟨0, 9, 12, 19⟩] ⟨0, 9, 15, 25⟩ [⟨0, 9, 18, 13⟩] (hTab.trans rfl) (List.forall_mem_cons.mpr ⟨⟨by decide, "java/lang/IllegalStateException", hG _ q_5_61, by rw [h1]; exact hN _ (by decide) _ (by decide) (by decide)⟩, fun _ h => absurd h List.not_mem_nil⟩) (by decide) (by decide) (hG _ q_5_94) (by rw [h1]; exact va_Nw.use rfl (hW.1.2 _ xb_5)) (fun q H locs hX => ?_)
    have hW := gX_H (v0 := v) hX
    refine lv_astore_n (lv' := [(3, .ref q), (0, .ref (ka (KC J τ v) 0)), (1, .int p0), (2, .ref (jq J))]) hx hb dX10_enter_15 rfl hl (by decide) rfl (fun ls hl => ?_)
    refine lv_iconst (v := (2 : Int32)) hx hb dX10_enter_16 (by decide) ?_
    exact gw_reti F hW (by rw [if_neg (by rw [h1]; decide)]) dX10_enter_17
  · refine gx_catch (name := "java/lang/IllegalArgumentException") (As := [.int p0]) (mc' := 3) (ms' := 18) F hZ hX ((mXX0_enter_0 (K := KC J τ v) hl9 hf s.heap.size).2 (by rw [h1]; decide)) (cwV 1 hts (gT_V q_5_149 q_5_150 q_5_151 q_1_1 q_5_152) rfl rfl rfl hdX0_enter ⟨(Nat.le_of_ble_eq_true rfl), (Nat.le_of_ble_eq_true rfl)⟩) 0 0 (aX_0 _ _) rfl rfl hl.1 rfl (Nat.le_of_ble_eq_true rfl) dX10_enter_4 ⟨(Nat.le_of_ble_eq_true rfl), (Nat.le_of_ble_eq_true rfl)⟩ rfl rfl [⟨0, 9, 12, 19⟩, ⟨0, 9, 15, 25⟩] ⟨0, 9, 18, 13⟩ [] (hTab.trans rfl) (List.forall_mem_cons.mpr ⟨⟨by decide, "java/lang/IllegalStateException", hG _ q_5_61, by rw [h1]; exact hN _ (by decide) _ (by decide) (by decide)⟩, List.forall_mem_cons.mpr ⟨⟨by decide, "java/lang/IndexOutOfBoundsException", hG _ q_5_94, by rw [h1]; exact hN _ (by decide) _ (by decide) (by decide)⟩, fun _ h => absurd h List.not_mem_nil⟩⟩) (by decide) (by decide) (hG _ q_4_197) (by rw [h1]; exact va_Nw.use rfl (hW.1.2 _ xb_6)) (fun q H locs hX => ?_)
    have hW := gX_H (v0 := v) hX
    refine lv_astore_n (lv' := [(3, .ref q), (0, .ref (ka (KC J τ v) 0)), (1, .int p0), (2, .ref (jq J))]) hx hb dX10_enter_18 rfl hl (by decide) rfl (fun ls hl => ?_)
    refine lv_iconst (v := (3 : Int32)) hx hb dX10_enter_19 (by decide) ?_
    exact gw_reti F hW (by rw [if_neg (by rw [h1]; decide)]) dX10_enter_20
abbrev rL_up : Room := { frames := 8, cells := 1, slots := 6, locals := 131 }
set_option maxHeartbeats 4000000 in
set_option maxRecDepth 100000 in
theorem hL_up {l : Launch} (hl9 : l.stackTraces = false) {J : LJ} {τ σ : XS} {v : Nat → Int64}  {o : Nat × Int32 × XS} {k : Int32} (hf : fXX0_up_0 (jn J) σ = some o) (hk : (o.1 = 0 ∧ k = 0) ∨ (o.1 = 1 ∧ k = 1)) : gh_M l J.1 vwCl (tyX (KC J τ v)) (wH J τ) yX10_up wsX10_up rL_up [.ref (ka (KC J τ v) 0), .ref (jq J)] (σ, v) (k, (o.2.2, if o.1 = 0 then vp_updL v 0 (if o.2.1 = 0 then (0 : Int64) else 1) else v)) := by
  refine gh_body (hh := [(0, 15, 18, 19)]) (cc := cX10_up) (maxL := 3) (by decide +kernel) rfl ?_ (Nat.le_of_ble_eq_true rfl)
  intro p e s m below meth c A F hTab hZ hN hW ls hl
  have hx := F.1
  have hb := F.2.1
  have hml := F.2.2.2.1
  have hown := F.2.2.2.2.1
  have hts := F.2.2.2.2.2.1
  have hG : ∀ x ∈ gT, x.before _ s = true := fun x h => hts x (List.mem_cons_of_mem _ h)
  refine lv_aload_n hx hb dX10_up_0 rfl (lv_at hl 1 rfl) ?_
  refine lv_iconst (v := (0 : Int32)) hx hb dX10_up_1 (by decide) ?_
  refine lv_aload_n hx hb dX10_up_2 rfl (lv_at hl 0 rfl) ?_
  have hX := gH_X hW
  rcases hk with ⟨h1, rfl⟩ | ⟨h1, rfl⟩
  · refine gx_V0z (As := []) (mc' := 1) (ms' := 6) F hZ hX (mXX0_up_0 (K := KC J τ v) hl9 hf) h1 (cwV 0 hts (gT_V q_5_157 q_5_158 q_5_159 q_1_1 q_5_160) rfl rfl rfl hdX0_up ⟨(Nat.le_of_ble_eq_true rfl), (Nat.le_of_ble_eq_true rfl)⟩) 0 0 (aX_0 _ _) rfl rfl hl.1 rfl (Nat.le_of_ble_eq_true rfl) dX10_up_3 ⟨(Nat.le_of_ble_eq_true rfl), (Nat.le_of_ble_eq_true rfl)⟩ rfl rfl (fun H locs hX => ?_)
    have hW := gX_H (v0 := v) hX
    refine lv_if_eq (tgt := 13) hx hb dX10_up_6 (by decide) (fun c1 => ?_) (fun c1 => ?_)
    · refine lv_lconst (v := (0 : Int64)) hx hb dX10_up_13 (by decide) ?_
      refine gw_last (σ' := (o.2.2, vp_updL v (0 : Int32).toNatClampNeg (0 : Int64))) F hW 19 8 (aH_o _ _ _) rfl (by decide) dX10_up_14 (sH_o _ _ _ _) (fun H locs hW => ?_)
      refine lv_goto (tgt := 21) hx hb dX10_up_15 (by decide) ?_
      refine lv_iconst (v := (0 : Int32)) hx hb dX10_up_21 (by decide) ?_
      exact gw_reti F hW (by rw [if_pos h1, if_pos c1]; rfl) dX10_up_22
    · refine lv_lconst (v := (1 : Int64)) hx hb dX10_up_9 (by decide) ?_
      refine lv_goto (tgt := 14) hx hb dX10_up_10 (by decide) ?_
      refine gw_last (σ' := (o.2.2, vp_updL v (0 : Int32).toNatClampNeg (1 : Int64))) F hW 19 8 (aH_o _ _ _) rfl (by decide) dX10_up_14 (sH_o _ _ _ _) (fun H locs hW => ?_)
      refine lv_goto (tgt := 21) hx hb dX10_up_15 (by decide) ?_
      refine lv_iconst (v := (0 : Int32)) hx hb dX10_up_21 (by decide) ?_
      exact gw_reti F hW (by rw [if_pos h1, if_neg c1]; rfl) dX10_up_22
  · refine gx_catch (name := "java/lang/IllegalStateException") (As := []) (mc' := 1) (ms' := 6) F hZ hX ((mXX0_up_0 (K := KC J τ v) hl9 hf s.heap.size).2 (by rw [h1]; decide)) (cwV 0 hts (gT_V q_5_157 q_5_158 q_5_159 q_1_1 q_5_160) rfl rfl rfl hdX0_up ⟨(Nat.le_of_ble_eq_true rfl), (Nat.le_of_ble_eq_true rfl)⟩) 0 0 (aX_0 _ _) rfl rfl hl.1 rfl (Nat.le_of_ble_eq_true rfl) dX10_up_3 ⟨(Nat.le_of_ble_eq_true rfl), (Nat.le_of_ble_eq_true rfl)⟩ rfl rfl [] ⟨0, 15, 18, 19⟩ [] (hTab.trans rfl) (fun _ h => absurd h List.not_mem_nil) (by decide) (by decide) (hG _ q_5_61) (by rw [h1]; exact va_Nw.use rfl (hW.1.2 _ xb_4)) (fun q H locs hX => ?_)
    have hW := gX_H (v0 := v) hX
    refine lv_astore_n (lv' := [(2, .ref q), (0, .ref (ka (KC J τ v) 0)), (1, .ref (jq J))]) hx hb dX10_up_18 rfl hl (by decide) rfl (fun ls hl => ?_)
    refine lv_iconst (v := (1 : Int32)) hx hb dX10_up_19 (by decide) ?_
    exact gw_reti F hW (by rw [if_neg (by rw [h1]; decide)]) dX10_up_20
abbrev rL_make : Room := { frames := 8, cells := 2, slots := 12, locals := 170 }
set_option maxHeartbeats 4000000 in
set_option maxRecDepth 100000 in
theorem hL_make {l : Launch} (hl9 : l.stackTraces = false) {J : LJ} {τ σ : XS} {v : Nat → Int64} {p0 : Int32} {o : Nat × Int32 × XS} {k : Int32} (hf : fXX0_make_0 (jn J) p0 σ = some o) (hk : (o.1 = 0 ∧ k = 0) ∨ (o.1 = 1 ∧ k = 1) ∨ (o.1 = 3 ∧ k = 2) ∨ (o.1 = 4 ∧ k = 3)) : gh_M l J.1 vwCl (tyX (KC J τ v)) (wH J τ) yX10_make wsX10_make rL_make [.ref (ka (KC J τ v) 0), .int p0, .ref (jq J)] (σ, v) (k, (o.2.2, if o.1 = 0 then vp_updL v 0 o.2.1.toInt64 else v)) := by
  refine gh_body (hh := [(0, 9, 12, 19), (0, 9, 15, 13), (0, 9, 18, 46)]) (cc := cX10_make) (maxL := 4) (by decide +kernel) rfl ?_ (Nat.le_of_ble_eq_true rfl)
  intro p e s m below meth c A F hTab hZ hN hW ls hl
  have hx := F.1
  have hb := F.2.1
  have hml := F.2.2.2.1
  have hown := F.2.2.2.2.1
  have hts := F.2.2.2.2.2.1
  have hG : ∀ x ∈ gT, x.before _ s = true := fun x h => hts x (List.mem_cons_of_mem _ h)
  refine lv_aload_n hx hb dX10_make_0 rfl (lv_at hl 2 rfl) ?_
  refine lv_iconst (v := (0 : Int32)) hx hb dX10_make_1 (by decide) ?_
  refine lv_aload_n hx hb dX10_make_2 rfl (lv_at hl 0 rfl) ?_
  refine lv_iload_n hx hb dX10_make_3 rfl (lv_at hl 1 rfl) ?_
  have hX := gH_X hW
  rcases hk with ⟨h1, rfl⟩ | ⟨h1, rfl⟩ | ⟨h1, rfl⟩ | ⟨h1, rfl⟩
  · refine gx_V0i (As := [.int p0]) (mc' := 2) (ms' := 12) F hZ hX (mXX0_make_0 (K := KC J τ v) hl9 hf) h1 (cwV 1 hts (gT_V q_5_166 q_5_167 q_5_168 q_1_1 q_5_169) rfl rfl rfl hdX0_make ⟨(Nat.le_of_ble_eq_true rfl), (Nat.le_of_ble_eq_true rfl)⟩) 0 0 (aX_0 _ _) rfl rfl hl.1 rfl (Nat.le_of_ble_eq_true rfl) dX10_make_4 ⟨(Nat.le_of_ble_eq_true rfl), (Nat.le_of_ble_eq_true rfl)⟩ rfl rfl (fun H locs hX => ?_)
    have hW := gX_H (v0 := v) hX
    refine lv_i2l (v := o.2.1.toInt64) hx hb dX10_make_7 rfl ?_
    refine gw_last (σ' := (o.2.2, vp_updL v (0 : Int32).toNatClampNeg o.2.1.toInt64)) F hW 19 8 (aH_o _ _ _) rfl (by decide) dX10_make_8 (sH_o _ _ _ _) (fun H locs hW => ?_)
    refine lv_goto (tgt := 21) hx hb dX10_make_9 (by decide) ?_
    refine lv_iconst (v := (0 : Int32)) hx hb dX10_make_21 (by decide) ?_
    exact gw_reti F hW (by rw [if_pos h1]; rfl) dX10_make_22
  · refine gx_catch (name := "java/lang/IllegalStateException") (As := [.int p0]) (mc' := 2) (ms' := 12) F hZ hX ((mXX0_make_0 (K := KC J τ v) hl9 hf s.heap.size).2 (by rw [h1]; decide)) (cwV 1 hts (gT_V q_5_166 q_5_167 q_5_168 q_1_1 q_5_169) rfl rfl rfl hdX0_make ⟨(Nat.le_of_ble_eq_true rfl), (Nat.le_of_ble_eq_true rfl)⟩) 0 0 (aX_0 _ _) rfl rfl hl.1 rfl (Nat.le_of_ble_eq_true rfl) dX10_make_4 ⟨(Nat.le_of_ble_eq_true rfl), (Nat.le_of_ble_eq_true rfl)⟩ rfl rfl [] ⟨0, 9, 12, 19⟩ [⟨0, 9, 15, 13⟩, ⟨0, 9, 18, 46⟩] (hTab.trans rfl) (fun _ h => absurd h List.not_mem_nil) (by decide) (by decide) (hG _ q_5_61) (by rw [h1]; exact va_Nw.use rfl (hW.1.2 _ xb_4)) (fun q H locs hX => ?_)
    have hW := gX_H (v0 := v) hX
    refine lv_astore_n (lv' := [(3, .ref q), (0, .ref (ka (KC J τ v) 0)), (1, .int p0), (2, .ref (jq J))]) hx hb dX10_make_12 rfl hl (by decide) rfl (fun ls hl => ?_)
    refine lv_iconst (v := (1 : Int32)) hx hb dX10_make_13 (by decide) ?_
    exact gw_reti F hW (by rw [if_neg (by rw [h1]; decide)]) dX10_make_14
  · refine gx_catch (name := "java/lang/IllegalArgumentException") (As := [.int p0]) (mc' := 2) (ms' := 12) F hZ hX ((mXX0_make_0 (K := KC J τ v) hl9 hf s.heap.size).2 (by rw [h1]; decide)) (cwV 1 hts (gT_V q_5_166 q_5_167 q_5_168 q_1_1 q_5_169) rfl rfl rfl hdX0_make ⟨(Nat.le_of_ble_eq_true rfl), (Nat.le_of_ble_eq_true rfl)⟩) 0 0 (aX_0 _ _) rfl rfl hl.1 rfl (Nat.le_of_ble_eq_true rfl) dX10_make_4 ⟨(Nat.le_of_ble_eq_true rfl), (Nat.le_of_ble_eq_true rfl)⟩ rfl rfl [⟨0, 9, 12, 19⟩] ⟨0, 9, 15, 13⟩ [⟨0, 9, 18, 46⟩] (hTab.trans rfl) (List.forall_mem_cons.mpr ⟨⟨by decide, "java/lang/IllegalStateException", hG _ q_5_61, by rw [h1]; exact hN _ (by decide) _ (by decide) (by decide)⟩, fun _ h => absurd h List.not_mem_nil⟩) (by decide) (by decide) (hG _ q_4_197) (by rw [h1]; exact va_Nw.use rfl (hW.1.2 _ xb_6)) (fun q H locs hX => ?_)
    have hW := gX_H (v0 := v) hX
    refine lv_astore_n (lv' := [(3, .ref q), (0, .ref (ka (KC J τ v) 0)), (1, .int p0), (2, .ref (jq J))]) hx hb dX10_make_15 rfl hl (by decide) rfl (fun ls hl => ?_)
    refine lv_iconst (v := (2 : Int32)) hx hb dX10_make_16 (by decide) ?_
    exact gw_reti F hW (by rw [if_neg (by rw [h1]; decide)]) dX10_make_17
  · refine gx_catch (name := "java/lang/UnsupportedOperationException") (As := [.int p0]) (mc' := 2) (ms' := 12) F hZ hX ((mXX0_make_0 (K := KC J τ v) hl9 hf s.heap.size).2 (by rw [h1]; decide)) (cwV 1 hts (gT_V q_5_166 q_5_167 q_5_168 q_1_1 q_5_169) rfl rfl rfl hdX0_make ⟨(Nat.le_of_ble_eq_true rfl), (Nat.le_of_ble_eq_true rfl)⟩) 0 0 (aX_0 _ _) rfl rfl hl.1 rfl (Nat.le_of_ble_eq_true rfl) dX10_make_4 ⟨(Nat.le_of_ble_eq_true rfl), (Nat.le_of_ble_eq_true rfl)⟩ rfl rfl [⟨0, 9, 12, 19⟩, ⟨0, 9, 15, 13⟩] ⟨0, 9, 18, 46⟩ [] (hTab.trans rfl) (List.forall_mem_cons.mpr ⟨⟨by decide, "java/lang/IllegalStateException", hG _ q_5_61, by rw [h1]; exact hN _ (by decide) _ (by decide) (by decide)⟩, List.forall_mem_cons.mpr ⟨⟨by decide, "java/lang/IllegalArgumentException", hG _ q_4_197, by rw [h1]; exact hN _ (by decide) _ (by decide) (by decide)⟩, fun _ h => absurd h List.not_mem_nil⟩⟩) (by decide) (by decide) (hG _ q_5_165) (by rw [h1]; exact va_Nw.use rfl (hW.1.2 _ xb_7)) (fun q H locs hX => ?_)
    have hW := gX_H (v0 := v) hX
    refine lv_astore_n (lv' := [(3, .ref q), (0, .ref (ka (KC J τ v) 0)), (1, .int p0), (2, .ref (jq J))]) hx hb dX10_make_18 rfl hl (by decide) rfl (fun ls hl => ?_)
    refine lv_iconst (v := (3 : Int32)) hx hb dX10_make_19 (by decide) ?_
    exact gw_reti F hW (by rw [if_neg (by rw [h1]; decide)]) dX10_make_20
abbrev rL_write : Room := { frames := 9, cells := 4, slots := 24, locals := 173 }
set_option maxHeartbeats 4000000 in
set_option maxRecDepth 100000 in
theorem hL_write {l : Launch} (hl9 : l.stackTraces = false) {J : LJ} {τ σ : XS} {v : Nat → Int64} {p0 : Int32} {o : Nat × Int32 × XS} {k : Int32} (hf : fXX0_write_0 (jn J) p0 σ = some o) (hk : (o.1 = 0 ∧ k = 0) ∨ (o.1 = 1 ∧ k = 1) ∨ (o.1 = 2 ∧ k = 2) ∨ (o.1 = 3 ∧ k = 3) ∨ (o.1 = 4 ∧ k = 4)) : gh_M l J.1 vwCl (tyX (KC J τ v)) (wH J τ) yX10_write wsX10_write rL_write [.ref (ka (KC J τ v) 0), .int p0, .ref (jq J)] (σ, v) (k, (o.2.2, if o.1 = 0 then vp_updL v 0 o.2.1.toInt64 else v)) := by
  refine gh_body (hh := [(0, 9, 12, 19), (0, 9, 15, 25), (0, 9, 18, 13), (0, 9, 21, 46)]) (cc := cX10_write) (maxL := 4) (by decide +kernel) rfl ?_ (Nat.le_of_ble_eq_true rfl)
  intro p e s m below meth c A F hTab hZ hN hW ls hl
  have hx := F.1
  have hb := F.2.1
  have hml := F.2.2.2.1
  have hown := F.2.2.2.2.1
  have hts := F.2.2.2.2.2.1
  have hG : ∀ x ∈ gT, x.before _ s = true := fun x h => hts x (List.mem_cons_of_mem _ h)
  refine lv_aload_n hx hb dX10_write_0 rfl (lv_at hl 2 rfl) ?_
  refine lv_iconst (v := (0 : Int32)) hx hb dX10_write_1 (by decide) ?_
  refine lv_aload_n hx hb dX10_write_2 rfl (lv_at hl 0 rfl) ?_
  refine lv_iload_n hx hb dX10_write_3 rfl (lv_at hl 1 rfl) ?_
  have hX := gH_X hW
  rcases hk with ⟨h1, rfl⟩ | ⟨h1, rfl⟩ | ⟨h1, rfl⟩ | ⟨h1, rfl⟩ | ⟨h1, rfl⟩
  · refine gx_V0i (As := [.int p0]) (mc' := 4) (ms' := 24) F hZ hX (mXX0_write_0 (K := KC J τ v) hl9 hf) h1 (cwV 1 hts (gT_V q_6_11 q_6_12 q_6_13 q_1_1 q_6_14) rfl rfl rfl hdX0_write ⟨(Nat.le_of_ble_eq_true rfl), (Nat.le_of_ble_eq_true rfl)⟩) 0 0 (aX_0 _ _) rfl rfl hl.1 rfl (Nat.le_of_ble_eq_true rfl) dX10_write_4 ⟨(Nat.le_of_ble_eq_true rfl), (Nat.le_of_ble_eq_true rfl)⟩ rfl rfl (fun H locs hX => ?_)
    have hW := gX_H (v0 := v) hX
    refine lv_i2l (v := o.2.1.toInt64) hx hb dX10_write_7 rfl ?_
    refine gw_last (σ' := (o.2.2, vp_updL v (0 : Int32).toNatClampNeg o.2.1.toInt64)) F hW 19 8 (aH_o _ _ _) rfl (by decide) dX10_write_8 (sH_o _ _ _ _) (fun H locs hW => ?_)
    refine lv_goto (tgt := 24) hx hb dX10_write_9 (by decide) ?_
    refine lv_iconst (v := (0 : Int32)) hx hb dX10_write_24 (by decide) ?_
    exact gw_reti F hW (by rw [if_pos h1]; rfl) dX10_write_25
  · refine gx_catch (name := "java/lang/IllegalStateException") (As := [.int p0]) (mc' := 4) (ms' := 24) F hZ hX ((mXX0_write_0 (K := KC J τ v) hl9 hf s.heap.size).2 (by rw [h1]; decide)) (cwV 1 hts (gT_V q_6_11 q_6_12 q_6_13 q_1_1 q_6_14) rfl rfl rfl hdX0_write ⟨(Nat.le_of_ble_eq_true rfl), (Nat.le_of_ble_eq_true rfl)⟩) 0 0 (aX_0 _ _) rfl rfl hl.1 rfl (Nat.le_of_ble_eq_true rfl) dX10_write_4 ⟨(Nat.le_of_ble_eq_true rfl), (Nat.le_of_ble_eq_true rfl)⟩ rfl rfl [] ⟨0, 9, 12, 19⟩ [⟨0, 9, 15, 25⟩, ⟨0, 9, 18, 13⟩, ⟨0, 9, 21, 46⟩] (hTab.trans rfl) (fun _ h => absurd h List.not_mem_nil) (by decide) (by decide) (hG _ q_5_61) (by rw [h1]; exact va_Nw.use rfl (hW.1.2 _ xb_4)) (fun q H locs hX => ?_)
    have hW := gX_H (v0 := v) hX
    refine lv_astore_n (lv' := [(3, .ref q), (0, .ref (ka (KC J τ v) 0)), (1, .int p0), (2, .ref (jq J))]) hx hb dX10_write_12 rfl hl (by decide) rfl (fun ls hl => ?_)
    refine lv_iconst (v := (1 : Int32)) hx hb dX10_write_13 (by decide) ?_
    exact gw_reti F hW (by rw [if_neg (by rw [h1]; decide)]) dX10_write_14
  · refine gx_catch (name := "java/lang/IndexOutOfBoundsException") (As := [.int p0]) (mc' := 4) (ms' := 24) F hZ hX ((mXX0_write_0 (K := KC J τ v) hl9 hf s.heap.size).2 (by rw [h1]; decide)) (cwV 1 hts (gT_V q_6_11 q_6_12 q_6_13 q_1_1 q_6_14) rfl rfl rfl hdX0_write ⟨(Nat.le_of_ble_eq_true rfl), (Nat.le_of_ble_eq_true rfl)⟩) 0 0 (aX_0 _ _) rfl rfl hl.1 rfl (Nat.le_of_ble_eq_true rfl) dX10_write_4 ⟨(Nat.le_of_ble_eq_true rfl), (Nat.le_of_ble_eq_true rfl)⟩ rfl rfl [⟨0, 9, 12, 19⟩] ⟨0, 9, 15, 25⟩ [⟨0, 9, 18, 13⟩, ⟨0, 9, 21, 46⟩] (hTab.trans rfl) (List.forall_mem_cons.mpr ⟨⟨by decide, "java/lang/IllegalStateException", hG _ q_5_61, by rw [h1]; exact hN _ (by decide) _ (by decide) (by decide)⟩, fun _ h => absurd h List.not_mem_nil⟩) (by decide) (by decide) (hG _ q_5_94) (by rw [h1]; exact va_Nw.use rfl (hW.1.2 _ xb_5)) (fun q H locs hX => ?_)
    have hW := gX_H (v0 := v) hX
    refine lv_astore_n (lv' := [(3, .ref q), (0, .ref (ka (KC J τ v) 0)), (1, .int p0), (2, .ref (jq J))]) hx hb dX10_write_15 rfl hl (by decide) rfl (fun ls hl => ?_)
    refine lv_iconst (v := (2 : Int32)) hx hb dX10_write_16 (by decide) ?_
    exact gw_reti F hW (by rw [if_neg (by rw [h1]; decide)]) dX10_write_17
  · refine gx_catch (name := "java/lang/IllegalArgumentException") (As := [.int p0]) (mc' := 4) (ms' := 24) F hZ hX ((mXX0_write_0 (K := KC J τ v) hl9 hf s.heap.size).2 (by rw [h1]; decide)) (cwV 1 hts (gT_V q_6_11 q_6_12 q_6_13 q_1_1 q_6_14) rfl rfl rfl hdX0_write ⟨(Nat.le_of_ble_eq_true rfl), (Nat.le_of_ble_eq_true rfl)⟩) 0 0 (aX_0 _ _) rfl rfl hl.1 rfl (Nat.le_of_ble_eq_true rfl) dX10_write_4 ⟨(Nat.le_of_ble_eq_true rfl), (Nat.le_of_ble_eq_true rfl)⟩ rfl rfl [⟨0, 9, 12, 19⟩, ⟨0, 9, 15, 25⟩] ⟨0, 9, 18, 13⟩ [⟨0, 9, 21, 46⟩] (hTab.trans rfl) (List.forall_mem_cons.mpr ⟨⟨by decide, "java/lang/IllegalStateException", hG _ q_5_61, by rw [h1]; exact hN _ (by decide) _ (by decide) (by decide)⟩, List.forall_mem_cons.mpr ⟨⟨by decide, "java/lang/IndexOutOfBoundsException", hG _ q_5_94, by rw [h1]; exact hN _ (by decide) _ (by decide) (by decide)⟩, fun _ h => absurd h List.not_mem_nil⟩⟩) (by decide) (by decide) (hG _ q_4_197) (by rw [h1]; exact va_Nw.use rfl (hW.1.2 _ xb_6)) (fun q H locs hX => ?_)
    have hW := gX_H (v0 := v) hX
    refine lv_astore_n (lv' := [(3, .ref q), (0, .ref (ka (KC J τ v) 0)), (1, .int p0), (2, .ref (jq J))]) hx hb dX10_write_18 rfl hl (by decide) rfl (fun ls hl => ?_)
    refine lv_iconst (v := (3 : Int32)) hx hb dX10_write_19 (by decide) ?_
    exact gw_reti F hW (by rw [if_neg (by rw [h1]; decide)]) dX10_write_20
  · refine gx_catch (name := "java/lang/UnsupportedOperationException") (As := [.int p0]) (mc' := 4) (ms' := 24) F hZ hX ((mXX0_write_0 (K := KC J τ v) hl9 hf s.heap.size).2 (by rw [h1]; decide)) (cwV 1 hts (gT_V q_6_11 q_6_12 q_6_13 q_1_1 q_6_14) rfl rfl rfl hdX0_write ⟨(Nat.le_of_ble_eq_true rfl), (Nat.le_of_ble_eq_true rfl)⟩) 0 0 (aX_0 _ _) rfl rfl hl.1 rfl (Nat.le_of_ble_eq_true rfl) dX10_write_4 ⟨(Nat.le_of_ble_eq_true rfl), (Nat.le_of_ble_eq_true rfl)⟩ rfl rfl [⟨0, 9, 12, 19⟩, ⟨0, 9, 15, 25⟩, ⟨0, 9, 18, 13⟩] ⟨0, 9, 21, 46⟩ [] (hTab.trans rfl) (List.forall_mem_cons.mpr ⟨⟨by decide, "java/lang/IllegalStateException", hG _ q_5_61, by rw [h1]; exact hN _ (by decide) _ (by decide) (by decide)⟩, List.forall_mem_cons.mpr ⟨⟨by decide, "java/lang/IndexOutOfBoundsException", hG _ q_5_94, by rw [h1]; exact hN _ (by decide) _ (by decide) (by decide)⟩, List.forall_mem_cons.mpr ⟨⟨by decide, "java/lang/IllegalArgumentException", hG _ q_4_197, by rw [h1]; exact hN _ (by decide) _ (by decide) (by decide)⟩, fun _ h => absurd h List.not_mem_nil⟩⟩⟩) (by decide) (by decide) (hG _ q_5_165) (by rw [h1]; exact va_Nw.use rfl (hW.1.2 _ xb_7)) (fun q H locs hX => ?_)
    have hW := gX_H (v0 := v) hX
    refine lv_astore_n (lv' := [(3, .ref q), (0, .ref (ka (KC J τ v) 0)), (1, .int p0), (2, .ref (jq J))]) hx hb dX10_write_21 rfl hl (by decide) rfl (fun ls hl => ?_)
    refine lv_iconst (v := (4 : Int32)) hx hb dX10_write_22 (by decide) ?_
    exact gw_reti F hW (by rw [if_neg (by rw [h1]; decide)]) dX10_write_23
abbrev rL_grow : Room := { frames := 9, cells := 5, slots := 25, locals := 174 }
set_option maxHeartbeats 4000000 in
set_option maxRecDepth 100000 in
theorem hL_grow {l : Launch} (hl9 : l.stackTraces = false) {J : LJ} {τ σ : XS} {v : Nat → Int64} {p0 : Int32} {p1 : Int32} {p2 : Int32} {o : Nat × Int32 × XS} {k : Int32} (hf : fXX0_grow_0 (jn J) p0 p1 p2 σ = some o) (hk : (o.1 = 0 ∧ k = 0) ∨ (o.1 = 1 ∧ k = 1) ∨ (o.1 = 2 ∧ k = 2) ∨ (o.1 = 3 ∧ k = 3) ∨ (o.1 = 4 ∧ k = 4)) : gh_M l J.1 vwCl (tyX (KC J τ v)) (wH J τ) yX10_grow wsX10_grow rL_grow [.ref (ka (KC J τ v) 0), .int p0, .int p1, .int p2, .ref (jq J)] (σ, v) (k, (o.2.2, if o.1 = 0 then vp_updL v 0 o.2.1.toInt64 else v)) := by
  refine gh_body (hh := [(0, 12, 15, 19), (0, 12, 19, 25), (0, 12, 23, 13), (0, 12, 27, 46)]) (cc := cX10_grow) (maxL := 6) (by decide +kernel) rfl ?_ (Nat.le_of_ble_eq_true rfl)
  intro p e s m below meth c A F hTab hZ hN hW ls hl
  have hx := F.1
  have hb := F.2.1
  have hml := F.2.2.2.1
  have hown := F.2.2.2.2.1
  have hts := F.2.2.2.2.2.1
  have hG : ∀ x ∈ gT, x.before _ s = true := fun x h => hts x (List.mem_cons_of_mem _ h)
  refine lv_aload hx hb dX10_grow_0 (lv_at hl 4 rfl) ?_
  refine lv_iconst (v := (0 : Int32)) hx hb dX10_grow_2 (by decide) ?_
  refine lv_aload_n hx hb dX10_grow_3 rfl (lv_at hl 0 rfl) ?_
  refine lv_iload_n hx hb dX10_grow_4 rfl (lv_at hl 1 rfl) ?_
  refine lv_iload_n hx hb dX10_grow_5 rfl (lv_at hl 2 rfl) ?_
  refine lv_iload_n hx hb dX10_grow_6 rfl (lv_at hl 3 rfl) ?_
  have hX := gH_X hW
  rcases hk with ⟨h1, rfl⟩ | ⟨h1, rfl⟩ | ⟨h1, rfl⟩ | ⟨h1, rfl⟩ | ⟨h1, rfl⟩
  · refine gx_V0i (As := [.int p0, .int p1, .int p2]) (mc' := 5) (ms' := 25) F hZ hX (mXX0_grow_0 (K := KC J τ v) hl9 hf) h1 (cwV 3 hts (gT_V q_6_34 q_6_35 q_6_36 q_1_1 q_6_37) rfl rfl rfl hdX0_grow ⟨(Nat.le_of_ble_eq_true rfl), (Nat.le_of_ble_eq_true rfl)⟩) 0 0 (aX_0 _ _) rfl rfl hl.1 rfl (Nat.le_of_ble_eq_true rfl) dX10_grow_7 ⟨(Nat.le_of_ble_eq_true rfl), (Nat.le_of_ble_eq_true rfl)⟩ rfl rfl (fun H locs hX => ?_)
    have hW := gX_H (v0 := v) hX
    refine lv_i2l (v := o.2.1.toInt64) hx hb dX10_grow_10 rfl ?_
    refine gw_last (σ' := (o.2.2, vp_updL v (0 : Int32).toNatClampNeg o.2.1.toInt64)) F hW 19 8 (aH_o _ _ _) rfl (by decide) dX10_grow_11 (sH_o _ _ _ _) (fun H locs hW => ?_)
    refine lv_goto (tgt := 31) hx hb dX10_grow_12 (by decide) ?_
    refine lv_iconst (v := (0 : Int32)) hx hb dX10_grow_31 (by decide) ?_
    exact gw_reti F hW (by rw [if_pos h1]; rfl) dX10_grow_32
  · refine gx_catch (name := "java/lang/IllegalStateException") (As := [.int p0, .int p1, .int p2]) (mc' := 5) (ms' := 25) F hZ hX ((mXX0_grow_0 (K := KC J τ v) hl9 hf s.heap.size).2 (by rw [h1]; decide)) (cwV 3 hts (gT_V q_6_34 q_6_35 q_6_36 q_1_1 q_6_37) rfl rfl rfl hdX0_grow ⟨(Nat.le_of_ble_eq_true rfl), (Nat.le_of_ble_eq_true rfl)⟩) 0 0 (aX_0 _ _) rfl rfl hl.1 rfl (Nat.le_of_ble_eq_true rfl) dX10_grow_7 ⟨(Nat.le_of_ble_eq_true rfl), (Nat.le_of_ble_eq_true rfl)⟩ rfl rfl [] ⟨0, 12, 15, 19⟩ [⟨0, 12, 19, 25⟩, ⟨0, 12, 23, 13⟩, ⟨0, 12, 27, 46⟩] (hTab.trans rfl) (fun _ h => absurd h List.not_mem_nil) (by decide) (by decide) (hG _ q_5_61) (by rw [h1]; exact va_Nw.use rfl (hW.1.2 _ xb_4)) (fun q H locs hX => ?_)
    have hW := gX_H (v0 := v) hX
    refine lv_astore (lv' := [(5, .ref q), (0, .ref (ka (KC J τ v) 0)), (1, .int p0), (2, .int p1), (3, .int p2), (4, .ref (jq J))]) hx hb dX10_grow_15 hl (by decide) rfl (fun ls hl => ?_)
    refine lv_iconst (v := (1 : Int32)) hx hb dX10_grow_17 (by decide) ?_
    exact gw_reti F hW (by rw [if_neg (by rw [h1]; decide)]) dX10_grow_18
  · refine gx_catch (name := "java/lang/IndexOutOfBoundsException") (As := [.int p0, .int p1, .int p2]) (mc' := 5) (ms' := 25) F hZ hX ((mXX0_grow_0 (K := KC J τ v) hl9 hf s.heap.size).2 (by rw [h1]; decide)) (cwV 3 hts (gT_V q_6_34 q_6_35 q_6_36 q_1_1 q_6_37) rfl rfl rfl hdX0_grow ⟨(Nat.le_of_ble_eq_true rfl), (Nat.le_of_ble_eq_true rfl)⟩) 0 0 (aX_0 _ _) rfl rfl hl.1 rfl (Nat.le_of_ble_eq_true rfl) dX10_grow_7 ⟨(Nat.le_of_ble_eq_true rfl), (Nat.le_of_ble_eq_true rfl)⟩ rfl rfl [⟨0, 12, 15, 19⟩] ⟨0, 12, 19, 25⟩ [⟨0, 12, 23, 13⟩, ⟨0, 12, 27, 46⟩] (hTab.trans rfl) (List.forall_mem_cons.mpr ⟨⟨by decide, "java/lang/IllegalStateException", hG _ q_5_61, by rw [h1]; exact hN _ (by decide) _ (by decide) (by decide)⟩, fun _ h => absurd h List.not_mem_nil⟩) (by decide) (by decide) (hG _ q_5_94) (by rw [h1]; exact va_Nw.use rfl (hW.1.2 _ xb_5)) (fun q H locs hX => ?_)
    have hW := gX_H (v0 := v) hX
    refine lv_astore (lv' := [(5, .ref q), (0, .ref (ka (KC J τ v) 0)), (1, .int p0), (2, .int p1), (3, .int p2), (4, .ref (jq J))]) hx hb dX10_grow_19 hl (by decide) rfl (fun ls hl => ?_)
    refine lv_iconst (v := (2 : Int32)) hx hb dX10_grow_21 (by decide) ?_
    exact gw_reti F hW (by rw [if_neg (by rw [h1]; decide)]) dX10_grow_22
  · refine gx_catch (name := "java/lang/IllegalArgumentException") (As := [.int p0, .int p1, .int p2]) (mc' := 5) (ms' := 25) F hZ hX ((mXX0_grow_0 (K := KC J τ v) hl9 hf s.heap.size).2 (by rw [h1]; decide)) (cwV 3 hts (gT_V q_6_34 q_6_35 q_6_36 q_1_1 q_6_37) rfl rfl rfl hdX0_grow ⟨(Nat.le_of_ble_eq_true rfl), (Nat.le_of_ble_eq_true rfl)⟩) 0 0 (aX_0 _ _) rfl rfl hl.1 rfl (Nat.le_of_ble_eq_true rfl) dX10_grow_7 ⟨(Nat.le_of_ble_eq_true rfl), (Nat.le_of_ble_eq_true rfl)⟩ rfl rfl [⟨0, 12, 15, 19⟩, ⟨0, 12, 19, 25⟩] ⟨0, 12, 23, 13⟩ [⟨0, 12, 27, 46⟩] (hTab.trans rfl) (List.forall_mem_cons.mpr ⟨⟨by decide, "java/lang/IllegalStateException", hG _ q_5_61, by rw [h1]; exact hN _ (by decide) _ (by decide) (by decide)⟩, List.forall_mem_cons.mpr ⟨⟨by decide, "java/lang/IndexOutOfBoundsException", hG _ q_5_94, by rw [h1]; exact hN _ (by decide) _ (by decide) (by decide)⟩, fun _ h => absurd h List.not_mem_nil⟩⟩) (by decide) (by decide) (hG _ q_4_197) (by rw [h1]; exact va_Nw.use rfl (hW.1.2 _ xb_6)) (fun q H locs hX => ?_)
    have hW := gX_H (v0 := v) hX
    refine lv_astore (lv' := [(5, .ref q), (0, .ref (ka (KC J τ v) 0)), (1, .int p0), (2, .int p1), (3, .int p2), (4, .ref (jq J))]) hx hb dX10_grow_23 hl (by decide) rfl (fun ls hl => ?_)
    refine lv_iconst (v := (3 : Int32)) hx hb dX10_grow_25 (by decide) ?_
    exact gw_reti F hW (by rw [if_neg (by rw [h1]; decide)]) dX10_grow_26
  · refine gx_catch (name := "java/lang/UnsupportedOperationException") (As := [.int p0, .int p1, .int p2]) (mc' := 5) (ms' := 25) F hZ hX ((mXX0_grow_0 (K := KC J τ v) hl9 hf s.heap.size).2 (by rw [h1]; decide)) (cwV 3 hts (gT_V q_6_34 q_6_35 q_6_36 q_1_1 q_6_37) rfl rfl rfl hdX0_grow ⟨(Nat.le_of_ble_eq_true rfl), (Nat.le_of_ble_eq_true rfl)⟩) 0 0 (aX_0 _ _) rfl rfl hl.1 rfl (Nat.le_of_ble_eq_true rfl) dX10_grow_7 ⟨(Nat.le_of_ble_eq_true rfl), (Nat.le_of_ble_eq_true rfl)⟩ rfl rfl [⟨0, 12, 15, 19⟩, ⟨0, 12, 19, 25⟩, ⟨0, 12, 23, 13⟩] ⟨0, 12, 27, 46⟩ [] (hTab.trans rfl) (List.forall_mem_cons.mpr ⟨⟨by decide, "java/lang/IllegalStateException", hG _ q_5_61, by rw [h1]; exact hN _ (by decide) _ (by decide) (by decide)⟩, List.forall_mem_cons.mpr ⟨⟨by decide, "java/lang/IndexOutOfBoundsException", hG _ q_5_94, by rw [h1]; exact hN _ (by decide) _ (by decide) (by decide)⟩, List.forall_mem_cons.mpr ⟨⟨by decide, "java/lang/IllegalArgumentException", hG _ q_4_197, by rw [h1]; exact hN _ (by decide) _ (by decide) (by decide)⟩, fun _ h => absurd h List.not_mem_nil⟩⟩⟩) (by decide) (by decide) (hG _ q_5_165) (by rw [h1]; exact va_Nw.use rfl (hW.1.2 _ xb_7)) (fun q H locs hX => ?_)
    have hW := gX_H (v0 := v) hX
    refine lv_astore (lv' := [(5, .ref q), (0, .ref (ka (KC J τ v) 0)), (1, .int p0), (2, .int p1), (3, .int p2), (4, .ref (jq J))]) hx hb dX10_grow_27 hl (by decide) rfl (fun ls hl => ?_)
    refine lv_iconst (v := (4 : Int32)) hx hb dX10_grow_29 (by decide) ?_
    exact gw_reti F hW (by rw [if_neg (by rw [h1]; decide)]) dX10_grow_30
abbrev rL_cut : Room := { frames := 9, cells := 4, slots := 24, locals := 166 }
set_option maxHeartbeats 4000000 in
set_option maxRecDepth 100000 in
theorem hL_cut {l : Launch} (hl9 : l.stackTraces = false) {J : LJ} {τ σ : XS} {v : Nat → Int64} {p0 : Int32} {p1 : Int32} {o : Nat × Int32 × XS} {k : Int32} (hf : fXX0_cut_0 (jn J) p0 p1 σ = some o) (hk : (o.1 = 0 ∧ k = 0) ∨ (o.1 = 1 ∧ k = 1) ∨ (o.1 = 2 ∧ k = 2) ∨ (o.1 = 3 ∧ k = 3)) : gh_M l J.1 vwCl (tyX (KC J τ v)) (wH J τ) yX10_cut wsX10_cut rL_cut [.ref (ka (KC J τ v) 0), .int p0, .int p1, .ref (jq J)] (σ, v) (k, (o.2.2, if o.1 = 0 then vp_updL v 0 o.2.1.toInt64 else v)) := by
  refine gh_body (hh := [(0, 10, 13, 19), (0, 10, 17, 25), (0, 10, 21, 13)]) (cc := cX10_cut) (maxL := 5) (by decide +kernel) rfl ?_ (Nat.le_of_ble_eq_true rfl)
  intro p e s m below meth c A F hTab hZ hN hW ls hl
  have hx := F.1
  have hb := F.2.1
  have hml := F.2.2.2.1
  have hown := F.2.2.2.2.1
  have hts := F.2.2.2.2.2.1
  have hG : ∀ x ∈ gT, x.before _ s = true := fun x h => hts x (List.mem_cons_of_mem _ h)
  refine lv_aload_n hx hb dX10_cut_0 rfl (lv_at hl 3 rfl) ?_
  refine lv_iconst (v := (0 : Int32)) hx hb dX10_cut_1 (by decide) ?_
  refine lv_aload_n hx hb dX10_cut_2 rfl (lv_at hl 0 rfl) ?_
  refine lv_iload_n hx hb dX10_cut_3 rfl (lv_at hl 1 rfl) ?_
  refine lv_iload_n hx hb dX10_cut_4 rfl (lv_at hl 2 rfl) ?_
  have hX := gH_X hW
  rcases hk with ⟨h1, rfl⟩ | ⟨h1, rfl⟩ | ⟨h1, rfl⟩ | ⟨h1, rfl⟩
  · refine gx_V0i (As := [.int p0, .int p1]) (mc' := 4) (ms' := 24) F hZ hX (mXX0_cut_0 (K := KC J τ v) hl9 hf) h1 (cwV 2 hts (gT_V q_6_53 q_6_54 q_6_55 q_1_1 q_6_56) rfl rfl rfl hdX0_cut ⟨(Nat.le_of_ble_eq_true rfl), (Nat.le_of_ble_eq_true rfl)⟩) 0 0 (aX_0 _ _) rfl rfl hl.1 rfl (Nat.le_of_ble_eq_true rfl) dX10_cut_5 ⟨(Nat.le_of_ble_eq_true rfl), (Nat.le_of_ble_eq_true rfl)⟩ rfl rfl (fun H locs hX => ?_)
    have hW := gX_H (v0 := v) hX
    refine lv_i2l (v := o.2.1.toInt64) hx hb dX10_cut_8 rfl ?_
    refine gw_last (σ' := (o.2.2, vp_updL v (0 : Int32).toNatClampNeg o.2.1.toInt64)) F hW 19 8 (aH_o _ _ _) rfl (by decide) dX10_cut_9 (sH_o _ _ _ _) (fun H locs hW => ?_)
    refine lv_goto (tgt := 25) hx hb dX10_cut_10 (by decide) ?_
    refine lv_iconst (v := (0 : Int32)) hx hb dX10_cut_25 (by decide) ?_
    exact gw_reti F hW (by rw [if_pos h1]; rfl) dX10_cut_26
  · refine gx_catch (name := "java/lang/IllegalStateException") (As := [.int p0, .int p1]) (mc' := 4) (ms' := 24) F hZ hX ((mXX0_cut_0 (K := KC J τ v) hl9 hf s.heap.size).2 (by rw [h1]; decide)) (cwV 2 hts (gT_V q_6_53 q_6_54 q_6_55 q_1_1 q_6_56) rfl rfl rfl hdX0_cut ⟨(Nat.le_of_ble_eq_true rfl), (Nat.le_of_ble_eq_true rfl)⟩) 0 0 (aX_0 _ _) rfl rfl hl.1 rfl (Nat.le_of_ble_eq_true rfl) dX10_cut_5 ⟨(Nat.le_of_ble_eq_true rfl), (Nat.le_of_ble_eq_true rfl)⟩ rfl rfl [] ⟨0, 10, 13, 19⟩ [⟨0, 10, 17, 25⟩, ⟨0, 10, 21, 13⟩] (hTab.trans rfl) (fun _ h => absurd h List.not_mem_nil) (by decide) (by decide) (hG _ q_5_61) (by rw [h1]; exact va_Nw.use rfl (hW.1.2 _ xb_4)) (fun q H locs hX => ?_)
    have hW := gX_H (v0 := v) hX
    refine lv_astore (lv' := [(4, .ref q), (0, .ref (ka (KC J τ v) 0)), (1, .int p0), (2, .int p1), (3, .ref (jq J))]) hx hb dX10_cut_13 hl (by decide) rfl (fun ls hl => ?_)
    refine lv_iconst (v := (1 : Int32)) hx hb dX10_cut_15 (by decide) ?_
    exact gw_reti F hW (by rw [if_neg (by rw [h1]; decide)]) dX10_cut_16
  · refine gx_catch (name := "java/lang/IndexOutOfBoundsException") (As := [.int p0, .int p1]) (mc' := 4) (ms' := 24) F hZ hX ((mXX0_cut_0 (K := KC J τ v) hl9 hf s.heap.size).2 (by rw [h1]; decide)) (cwV 2 hts (gT_V q_6_53 q_6_54 q_6_55 q_1_1 q_6_56) rfl rfl rfl hdX0_cut ⟨(Nat.le_of_ble_eq_true rfl), (Nat.le_of_ble_eq_true rfl)⟩) 0 0 (aX_0 _ _) rfl rfl hl.1 rfl (Nat.le_of_ble_eq_true rfl) dX10_cut_5 ⟨(Nat.le_of_ble_eq_true rfl), (Nat.le_of_ble_eq_true rfl)⟩ rfl rfl [⟨0, 10, 13, 19⟩] ⟨0, 10, 17, 25⟩ [⟨0, 10, 21, 13⟩] (hTab.trans rfl) (List.forall_mem_cons.mpr ⟨⟨by decide, "java/lang/IllegalStateException", hG _ q_5_61, by rw [h1]; exact hN _ (by decide) _ (by decide) (by decide)⟩, fun _ h => absurd h List.not_mem_nil⟩) (by decide) (by decide) (hG _ q_5_94) (by rw [h1]; exact va_Nw.use rfl (hW.1.2 _ xb_5)) (fun q H locs hX => ?_)
    have hW := gX_H (v0 := v) hX
    refine lv_astore (lv' := [(4, .ref q), (0, .ref (ka (KC J τ v) 0)), (1, .int p0), (2, .int p1), (3, .ref (jq J))]) hx hb dX10_cut_17 hl (by decide) rfl (fun ls hl => ?_)
    refine lv_iconst (v := (2 : Int32)) hx hb dX10_cut_19 (by decide) ?_
    exact gw_reti F hW (by rw [if_neg (by rw [h1]; decide)]) dX10_cut_20
  · refine gx_catch (name := "java/lang/IllegalArgumentException") (As := [.int p0, .int p1]) (mc' := 4) (ms' := 24) F hZ hX ((mXX0_cut_0 (K := KC J τ v) hl9 hf s.heap.size).2 (by rw [h1]; decide)) (cwV 2 hts (gT_V q_6_53 q_6_54 q_6_55 q_1_1 q_6_56) rfl rfl rfl hdX0_cut ⟨(Nat.le_of_ble_eq_true rfl), (Nat.le_of_ble_eq_true rfl)⟩) 0 0 (aX_0 _ _) rfl rfl hl.1 rfl (Nat.le_of_ble_eq_true rfl) dX10_cut_5 ⟨(Nat.le_of_ble_eq_true rfl), (Nat.le_of_ble_eq_true rfl)⟩ rfl rfl [⟨0, 10, 13, 19⟩, ⟨0, 10, 17, 25⟩] ⟨0, 10, 21, 13⟩ [] (hTab.trans rfl) (List.forall_mem_cons.mpr ⟨⟨by decide, "java/lang/IllegalStateException", hG _ q_5_61, by rw [h1]; exact hN _ (by decide) _ (by decide) (by decide)⟩, List.forall_mem_cons.mpr ⟨⟨by decide, "java/lang/IndexOutOfBoundsException", hG _ q_5_94, by rw [h1]; exact hN _ (by decide) _ (by decide) (by decide)⟩, fun _ h => absurd h List.not_mem_nil⟩⟩) (by decide) (by decide) (hG _ q_4_197) (by rw [h1]; exact va_Nw.use rfl (hW.1.2 _ xb_6)) (fun q H locs hX => ?_)
    have hW := gX_H (v0 := v) hX
    refine lv_astore (lv' := [(4, .ref q), (0, .ref (ka (KC J τ v) 0)), (1, .int p0), (2, .int p1), (3, .ref (jq J))]) hx hb dX10_cut_21 hl (by decide) rfl (fun ls hl => ?_)
    refine lv_iconst (v := (3 : Int32)) hx hb dX10_cut_23 (by decide) ?_
    exact gw_reti F hW (by rw [if_neg (by rw [h1]; decide)]) dX10_cut_24
abbrev rL_remove : Room := { frames := 9, cells := 3, slots := 18, locals := 167 }
set_option maxHeartbeats 4000000 in
set_option maxRecDepth 100000 in
theorem hL_remove {l : Launch} (hl9 : l.stackTraces = false) {J : LJ} {τ σ : XS} {v : Nat → Int64} {p0 : Int32} {o : Nat × XS} {k : Int32} (hf : fXX0_remove_0 (jn J) p0 σ = some o) (hk : (o.1 = 0 ∧ k = 0) ∨ (o.1 = 1 ∧ k = 1) ∨ (o.1 = 2 ∧ k = 2) ∨ (o.1 = 3 ∧ k = 3)) : gh_M l J.1 vwCl (tyX (KC J τ v)) (wH J τ) yX10_remove wsX10_remove rL_remove [.ref (ka (KC J τ v) 0), .int p0] (σ, v) (k, (o.2, v)) := by
  refine gh_body (hh := [(0, 5, 8, 19), (0, 5, 11, 25), (0, 5, 14, 13)]) (cc := cX10_remove) (maxL := 3) (by decide +kernel) rfl ?_ (Nat.le_of_ble_eq_true rfl)
  intro p e s m below meth c A F hTab hZ hN hW ls hl
  have hx := F.1
  have hb := F.2.1
  have hml := F.2.2.2.1
  have hown := F.2.2.2.2.1
  have hts := F.2.2.2.2.2.1
  have hG : ∀ x ∈ gT, x.before _ s = true := fun x h => hts x (List.mem_cons_of_mem _ h)
  refine lv_aload_n hx hb dX10_remove_0 rfl (lv_at hl 0 rfl) ?_
  refine lv_iload_n hx hb dX10_remove_1 rfl (lv_at hl 1 rfl) ?_
  have hX := gH_X hW
  rcases hk with ⟨h1, rfl⟩ | ⟨h1, rfl⟩ | ⟨h1, rfl⟩ | ⟨h1, rfl⟩
  · refine gx_V0v (As := [.int p0]) (mc' := 3) (ms' := 18) F hZ hX (mXX0_remove_0 (K := KC J τ v) hl9 hf) h1 (cwV 1 hts (gT_V q_6_79 q_6_80 q_6_81 q_1_1 q_6_82) rfl rfl rfl hdX0_remove ⟨(Nat.le_of_ble_eq_true rfl), (Nat.le_of_ble_eq_true rfl)⟩) 0 0 (aX_0 _ _) rfl rfl hl.1 rfl (Nat.le_of_ble_eq_true rfl) dX10_remove_2 ⟨(Nat.le_of_ble_eq_true rfl), (Nat.le_of_ble_eq_true rfl)⟩ rfl rfl (fun H locs hX => ?_)
    have hW := gX_H (v0 := v) hX
    refine lv_goto (tgt := 17) hx hb dX10_remove_5 (by decide) ?_
    refine lv_iconst (v := (0 : Int32)) hx hb dX10_remove_17 (by decide) ?_
    exact gw_reti F hW rfl dX10_remove_18
  · refine gx_catch (name := "java/lang/IllegalStateException") (As := [.int p0]) (mc' := 3) (ms' := 18) F hZ hX ((mXX0_remove_0 (K := KC J τ v) hl9 hf s.heap.size).2 (by rw [h1]; decide)) (cwV 1 hts (gT_V q_6_79 q_6_80 q_6_81 q_1_1 q_6_82) rfl rfl rfl hdX0_remove ⟨(Nat.le_of_ble_eq_true rfl), (Nat.le_of_ble_eq_true rfl)⟩) 0 0 (aX_0 _ _) rfl rfl hl.1 rfl (Nat.le_of_ble_eq_true rfl) dX10_remove_2 ⟨(Nat.le_of_ble_eq_true rfl), (Nat.le_of_ble_eq_true rfl)⟩ rfl rfl [] ⟨0, 5, 8, 19⟩ [⟨0, 5, 11, 25⟩, ⟨0, 5, 14, 13⟩] (hTab.trans rfl) (fun _ h => absurd h List.not_mem_nil) (by decide) (by decide) (hG _ q_5_61) (by rw [h1]; exact va_Nw.use rfl (hW.1.2 _ xb_4)) (fun q H locs hX => ?_)
    have hW := gX_H (v0 := v) hX
    refine lv_astore_n (lv' := [(2, .ref q), (0, .ref (ka (KC J τ v) 0)), (1, .int p0)]) hx hb dX10_remove_8 rfl hl (by decide) rfl (fun ls hl => ?_)
    refine lv_iconst (v := (1 : Int32)) hx hb dX10_remove_9 (by decide) ?_
    exact gw_reti F hW rfl dX10_remove_10
  · refine gx_catch (name := "java/lang/IndexOutOfBoundsException") (As := [.int p0]) (mc' := 3) (ms' := 18) F hZ hX ((mXX0_remove_0 (K := KC J τ v) hl9 hf s.heap.size).2 (by rw [h1]; decide)) (cwV 1 hts (gT_V q_6_79 q_6_80 q_6_81 q_1_1 q_6_82) rfl rfl rfl hdX0_remove ⟨(Nat.le_of_ble_eq_true rfl), (Nat.le_of_ble_eq_true rfl)⟩) 0 0 (aX_0 _ _) rfl rfl hl.1 rfl (Nat.le_of_ble_eq_true rfl) dX10_remove_2 ⟨(Nat.le_of_ble_eq_true rfl), (Nat.le_of_ble_eq_true rfl)⟩ rfl rfl [⟨0, 5, 8, 19⟩] ⟨0, 5, 11, 25⟩ [⟨0, 5, 14, 13⟩] (hTab.trans rfl) (List.forall_mem_cons.mpr ⟨⟨by decide, "java/lang/IllegalStateException", hG _ q_5_61, by rw [h1]; exact hN _ (by decide) _ (by decide) (by decide)⟩, fun _ h => absurd h List.not_mem_nil⟩) (by decide) (by decide) (hG _ q_5_94) (by rw [h1]; exact va_Nw.use rfl (hW.1.2 _ xb_5)) (fun q H locs hX => ?_)
    have hW := gX_H (v0 := v) hX
    refine lv_astore_n (lv' := [(2, .ref q), (0, .ref (ka (KC J τ v) 0)), (1, .int p0)]) hx hb dX10_remove_11 rfl hl (by decide) rfl (fun ls hl => ?_)
    refine lv_iconst (v := (2 : Int32)) hx hb dX10_remove_12 (by decide) ?_
    exact gw_reti F hW rfl dX10_remove_13
  · refine gx_catch (name := "java/lang/IllegalArgumentException") (As := [.int p0]) (mc' := 3) (ms' := 18) F hZ hX ((mXX0_remove_0 (K := KC J τ v) hl9 hf s.heap.size).2 (by rw [h1]; decide)) (cwV 1 hts (gT_V q_6_79 q_6_80 q_6_81 q_1_1 q_6_82) rfl rfl rfl hdX0_remove ⟨(Nat.le_of_ble_eq_true rfl), (Nat.le_of_ble_eq_true rfl)⟩) 0 0 (aX_0 _ _) rfl rfl hl.1 rfl (Nat.le_of_ble_eq_true rfl) dX10_remove_2 ⟨(Nat.le_of_ble_eq_true rfl), (Nat.le_of_ble_eq_true rfl)⟩ rfl rfl [⟨0, 5, 8, 19⟩, ⟨0, 5, 11, 25⟩] ⟨0, 5, 14, 13⟩ [] (hTab.trans rfl) (List.forall_mem_cons.mpr ⟨⟨by decide, "java/lang/IllegalStateException", hG _ q_5_61, by rw [h1]; exact hN _ (by decide) _ (by decide) (by decide)⟩, List.forall_mem_cons.mpr ⟨⟨by decide, "java/lang/IndexOutOfBoundsException", hG _ q_5_94, by rw [h1]; exact hN _ (by decide) _ (by decide) (by decide)⟩, fun _ h => absurd h List.not_mem_nil⟩⟩) (by decide) (by decide) (hG _ q_4_197) (by rw [h1]; exact va_Nw.use rfl (hW.1.2 _ xb_6)) (fun q H locs hX => ?_)
    have hW := gX_H (v0 := v) hX
    refine lv_astore_n (lv' := [(2, .ref q), (0, .ref (ka (KC J τ v) 0)), (1, .int p0)]) hx hb dX10_remove_14 rfl hl (by decide) rfl (fun ls hl => ?_)
    refine lv_iconst (v := (3 : Int32)) hx hb dX10_remove_15 (by decide) ?_
    exact gw_reti F hW rfl dX10_remove_16
abbrev rL_stamp : Room := { frames := 9, cells := 3, slots := 18, locals := 158 }
set_option maxHeartbeats 4000000 in
set_option maxRecDepth 100000 in
theorem hL_stamp {l : Launch} (hl9 : l.stackTraces = false) {J : LJ} {τ σ : XS} {v : Nat → Int64} {p0 : Int32} {p1 : Int32} {p2 : Int64} {o : Nat × XS} {k : Int32} (hf : fXX0_stamp_0 (jn J) p0 p1 p2 σ = some o) (hk : (o.1 = 0 ∧ k = 0) ∨ (o.1 = 1 ∧ k = 1) ∨ (o.1 = 2 ∧ k = 2) ∨ (o.1 = 3 ∧ k = 3)) : gh_M l J.1 vwCl (tyX (KC J τ v)) (wH J τ) yX10_stamp wsX10_stamp rL_stamp [.ref (ka (KC J τ v) 0), .int p0, .int p1, .long p2] (σ, v) (k, (o.2, v)) := by
  refine gh_body (hh := [(0, 7, 10, 19), (0, 7, 14, 25), (0, 7, 18, 13)]) (cc := cX10_stamp) (maxL := 6) (by decide +kernel) rfl ?_ (Nat.le_of_ble_eq_true rfl)
  intro p e s m below meth c A F hTab hZ hN hW ls hl
  have hx := F.1
  have hb := F.2.1
  have hml := F.2.2.2.1
  have hown := F.2.2.2.2.1
  have hts := F.2.2.2.2.2.1
  have hG : ∀ x ∈ gT, x.before _ s = true := fun x h => hts x (List.mem_cons_of_mem _ h)
  refine lv_aload_n hx hb dX10_stamp_0 rfl (lv_at hl 0 rfl) ?_
  refine lv_iload_n hx hb dX10_stamp_1 rfl (lv_at hl 1 rfl) ?_
  refine lv_iload_n hx hb dX10_stamp_2 rfl (lv_at hl 2 rfl) ?_
  refine lv_lload_n hx hb dX10_stamp_3 rfl (lv_at hl 3 rfl) ?_
  have hX := gH_X hW
  rcases hk with ⟨h1, rfl⟩ | ⟨h1, rfl⟩ | ⟨h1, rfl⟩ | ⟨h1, rfl⟩
  · refine gx_V0v (As := [.int p0, .int p1, .long p2]) (mc' := 3) (ms' := 18) F hZ hX (mXX0_stamp_0 (K := KC J τ v) hl9 hf) h1 (cwV 3 hts (gT_V q_6_96 q_6_97 q_6_98 q_1_1 q_6_99) rfl rfl rfl hdX0_stamp ⟨(Nat.le_of_ble_eq_true rfl), (Nat.le_of_ble_eq_true rfl)⟩) 0 0 (aX_0 _ _) rfl rfl hl.1 rfl (Nat.le_of_ble_eq_true rfl) dX10_stamp_4 ⟨(Nat.le_of_ble_eq_true rfl), (Nat.le_of_ble_eq_true rfl)⟩ rfl rfl (fun H locs hX => ?_)
    have hW := gX_H (v0 := v) hX
    refine lv_goto (tgt := 22) hx hb dX10_stamp_7 (by decide) ?_
    refine lv_iconst (v := (0 : Int32)) hx hb dX10_stamp_22 (by decide) ?_
    exact gw_reti F hW rfl dX10_stamp_23
  · refine gx_catch (name := "java/lang/IllegalStateException") (As := [.int p0, .int p1, .long p2]) (mc' := 3) (ms' := 18) F hZ hX ((mXX0_stamp_0 (K := KC J τ v) hl9 hf s.heap.size).2 (by rw [h1]; decide)) (cwV 3 hts (gT_V q_6_96 q_6_97 q_6_98 q_1_1 q_6_99) rfl rfl rfl hdX0_stamp ⟨(Nat.le_of_ble_eq_true rfl), (Nat.le_of_ble_eq_true rfl)⟩) 0 0 (aX_0 _ _) rfl rfl hl.1 rfl (Nat.le_of_ble_eq_true rfl) dX10_stamp_4 ⟨(Nat.le_of_ble_eq_true rfl), (Nat.le_of_ble_eq_true rfl)⟩ rfl rfl [] ⟨0, 7, 10, 19⟩ [⟨0, 7, 14, 25⟩, ⟨0, 7, 18, 13⟩] (hTab.trans rfl) (fun _ h => absurd h List.not_mem_nil) (by decide) (by decide) (hG _ q_5_61) (by rw [h1]; exact va_Nw.use rfl (hW.1.2 _ xb_4)) (fun q H locs hX => ?_)
    have hW := gX_H (v0 := v) hX
    refine lv_astore (lv' := [(5, .ref q), (0, .ref (ka (KC J τ v) 0)), (1, .int p0), (2, .int p1), (3, .long p2)]) hx hb dX10_stamp_10 hl (by decide) rfl (fun ls hl => ?_)
    refine lv_iconst (v := (1 : Int32)) hx hb dX10_stamp_12 (by decide) ?_
    exact gw_reti F hW rfl dX10_stamp_13
  · refine gx_catch (name := "java/lang/IndexOutOfBoundsException") (As := [.int p0, .int p1, .long p2]) (mc' := 3) (ms' := 18) F hZ hX ((mXX0_stamp_0 (K := KC J τ v) hl9 hf s.heap.size).2 (by rw [h1]; decide)) (cwV 3 hts (gT_V q_6_96 q_6_97 q_6_98 q_1_1 q_6_99) rfl rfl rfl hdX0_stamp ⟨(Nat.le_of_ble_eq_true rfl), (Nat.le_of_ble_eq_true rfl)⟩) 0 0 (aX_0 _ _) rfl rfl hl.1 rfl (Nat.le_of_ble_eq_true rfl) dX10_stamp_4 ⟨(Nat.le_of_ble_eq_true rfl), (Nat.le_of_ble_eq_true rfl)⟩ rfl rfl [⟨0, 7, 10, 19⟩] ⟨0, 7, 14, 25⟩ [⟨0, 7, 18, 13⟩] (hTab.trans rfl) (List.forall_mem_cons.mpr ⟨⟨by decide, "java/lang/IllegalStateException", hG _ q_5_61, by rw [h1]; exact hN _ (by decide) _ (by decide) (by decide)⟩, fun _ h => absurd h List.not_mem_nil⟩) (by decide) (by decide) (hG _ q_5_94) (by rw [h1]; exact va_Nw.use rfl (hW.1.2 _ xb_5)) (fun q H locs hX => ?_)
    have hW := gX_H (v0 := v) hX
    refine lv_astore (lv' := [(5, .ref q), (0, .ref (ka (KC J τ v) 0)), (1, .int p0), (2, .int p1), (3, .long p2)]) hx hb dX10_stamp_14 hl (by decide) rfl (fun ls hl => ?_)
    refine lv_iconst (v := (2 : Int32)) hx hb dX10_stamp_16 (by decide) ?_
    exact gw_reti F hW rfl dX10_stamp_17
  · refine gx_catch (name := "java/lang/IllegalArgumentException") (As := [.int p0, .int p1, .long p2]) (mc' := 3) (ms' := 18) F hZ hX ((mXX0_stamp_0 (K := KC J τ v) hl9 hf s.heap.size).2 (by rw [h1]; decide)) (cwV 3 hts (gT_V q_6_96 q_6_97 q_6_98 q_1_1 q_6_99) rfl rfl rfl hdX0_stamp ⟨(Nat.le_of_ble_eq_true rfl), (Nat.le_of_ble_eq_true rfl)⟩) 0 0 (aX_0 _ _) rfl rfl hl.1 rfl (Nat.le_of_ble_eq_true rfl) dX10_stamp_4 ⟨(Nat.le_of_ble_eq_true rfl), (Nat.le_of_ble_eq_true rfl)⟩ rfl rfl [⟨0, 7, 10, 19⟩, ⟨0, 7, 14, 25⟩] ⟨0, 7, 18, 13⟩ [] (hTab.trans rfl) (List.forall_mem_cons.mpr ⟨⟨by decide, "java/lang/IllegalStateException", hG _ q_5_61, by rw [h1]; exact hN _ (by decide) _ (by decide) (by decide)⟩, List.forall_mem_cons.mpr ⟨⟨by decide, "java/lang/IndexOutOfBoundsException", hG _ q_5_94, by rw [h1]; exact hN _ (by decide) _ (by decide) (by decide)⟩, fun _ h => absurd h List.not_mem_nil⟩⟩) (by decide) (by decide) (hG _ q_4_197) (by rw [h1]; exact va_Nw.use rfl (hW.1.2 _ xb_6)) (fun q H locs hX => ?_)
    have hW := gX_H (v0 := v) hX
    refine lv_astore (lv' := [(5, .ref q), (0, .ref (ka (KC J τ v) 0)), (1, .int p0), (2, .int p1), (3, .long p2)]) hx hb dX10_stamp_18 hl (by decide) rfl (fun ls hl => ?_)
    refine lv_iconst (v := (3 : Int32)) hx hb dX10_stamp_20 (by decide) ?_
    exact gw_reti F hW rfl dX10_stamp_21
