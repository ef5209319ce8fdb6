theorem gw_out0_17 {x : Int32} (h0 : ¬ x = (0 : Int32)) (h1 : ¬ x = (1 : Int32)) (h2 : ¬ x = (2 : Int32)) (h3 : ¬ x = (3 : Int32)) (h4 : ¬ x = (4 : Int32)) (h5 : ¬ x = (5 : Int32)) (h6 : ¬ x = (6 : Int32)) (h7 : ¬ x = (7 : Int32)) (h8 : ¬ x = (8 : Int32)) (h9 : ¬ x = (9 : Int32)) (h10 : ¬ x = (10 : Int32)) (h11 : ¬ x = (11 : Int32)) (h12 : ¬ x = (12 : Int32)) (h13 : ¬ x = (13 : Int32)) (h14 : ¬ x = (14 : Int32)) (h15 : ¬ x = (15 : Int32)) (h16 : ¬ x = (16 : Int32)) (h17 : ¬ x = (17 : Int32)) : x.toInt < 0 ∨ 17 < x.toInt := by
  have e0 := gw_ne (k := 0) (0 : Int32) (by decide) h0
  have e1 := gw_ne (k := 1) (1 : Int32) (by decide) h1
  have e2 := gw_ne (k := 2) (2 : Int32) (by decide) h2
  have e3 := gw_ne (k := 3) (3 : Int32) (by decide) h3
  have e4 := gw_ne (k := 4) (4 : Int32) (by decide) h4
  have e5 := gw_ne (k := 5) (5 : Int32) (by decide) h5
  have e6 := gw_ne (k := 6) (6 : Int32) (by decide) h6
  have e7 := gw_ne (k := 7) (7 : Int32) (by decide) h7
  have e8 := gw_ne (k := 8) (8 : Int32) (by decide) h8
  have e9 := gw_ne (k := 9) (9 : Int32) (by decide) h9
  have e10 := gw_ne (k := 10) (10 : Int32) (by decide) h10
  have e11 := gw_ne (k := 11) (11 : Int32) (by decide) h11
  have e12 := gw_ne (k := 12) (12 : Int32) (by decide) h12
  have e13 := gw_ne (k := 13) (13 : Int32) (by decide) h13
  have e14 := gw_ne (k := 14) (14 : Int32) (by decide) h14
  have e15 := gw_ne (k := 15) (15 : Int32) (by decide) h15
  have e16 := gw_ne (k := 16) (16 : Int32) (by decide) h16
  have e17 := gw_ne (k := 17) (17 : Int32) (by decide) h17
  omega
theorem law_lt {L i : Nat} (hL : L ≤ 3073) (hi : i ≤ 4000) : (Int32.ofNat L - 6 < nI i) ↔ L < i + 6 := by
  have h : (nI L - nI 6).toInt = (L : Int) - 6 := pk_sub_toInt (by omega) (by omega)
  have h2 : (nI i).toInt = (i : Int) := nI_toInt (by omega)
  show (nI L - nI 6 < nI i) ↔ _
  rw [Int32.lt_iff_toInt_lt, h, h2]
  omega
theorem law_in {L i : Nat} {x4 : Int32} (hL : L ≤ 3073) (hx : x4 = nI i) (hi : i + 6 ≤ L) : ∀ k : Int32, 0 ≤ k → k < 6 → vp_in (x4 + k) L := by
  intro k h0 h6
  obtain ⟨j, hj, rfl⟩ := nI_of2 (x := k) (M := 6) (n := 6) (by decide) (Int32.not_lt.mpr h0) (Int32.le_of_lt h6)
  have hj6 : j < 6 := by
    rcases Nat.lt_or_ge j 6 with h | h
    · exact h
    · exact absurd h6 (nI_nlt h (by omega))
  rw [hx, nI_add]
  exact vp_in_nI (by omega) (by omega)
set_option maxHeartbeats 4000000 in
set_option maxRecDepth 100000 in
theorem law_loop {p : Program} {l : Launch} {e : Env} {s : State} {m : MethodId} {below : List Frame} {meth : Method} {c : Code} {b L : Nat} {xs : Nat → Int32} {J : LJ} {Inv : XS → XS → Prop} (F : fx_ p s m #[Value.ref b] meth c code 8 ret "InodeDeskLaw" (Cond.initialized "InodeDeskLaw" :: gT)) (hl9 : l.stackTraces = false) (hZ : xz_ (fun q : Nat => s.heap.size ≤ q) s) (hN : xn_ s) (hX : va_X b L xs s s.heap) (hbl : b < s.heap.size) (hL : L ≤ 3073) (St : St_all (jn J) Inv) : ∀ (n i : Nat) (x4 : Int32) (cells slots : Nat), x4 = nI i → L ≤ i + 6 * n → i ≤ 3079 → cells + n * 5 ≤ 601024 → slots + n * 25 ≤ 7293000 → ∀ (σ τ : XS) (v : Nat → Int64) (H : Heap) (locs : List Loc) (ls : Array Slot), Inv σ τ → lv_has ls 8 [(0, .ref b), (1, .ref (ka (jX J) 0)), (2, .ref (ka (jM J) 0)), (3, .ref (jq J)), (4, .int x4)] → gw_ (kD (KC J τ v)) vwCl (tyX (KC J τ v)) (wX (KC J τ v)) (fun q : Nat => s.heap.size ≤ q) s σ H locs → W p l e room_1 s m #[Value.ref b] below meth c H locs cells slots (lw_Z below #[Value.ref b] s) (F0 m 33 ls []) := by
  have hx := F.1
  have hb := F.2.1
  have hr := F.2.2.1
  have hlocks := F.2.2.2.2.2.2
  have hbA : ¬ (fun q : Nat => s.heap.size ≤ q) b := Nat.not_le.mpr hbl
  intro n
  induction n with
  | zero =>
    intro i x4 cells slots ex4 hin hi hcc hss σ τ v H locs ls hI hl hW
    refine lv_iload hx hb dL_33 (lv_at hl 4 rfl) ?_
    refine lv_aload_n hx hb dL_35 rfl (lv_at hl 0 rfl) ?_
    refine va_slen hx hb hX hbl hbA hW.2.2.2.1 dL_36 ?_
    refine lv_bipush (v := (6 : Int32)) hx hb dL_37 (by decide) ?_
    refine lv_isub hx hb dL_39 ?_
    refine lv_icmp_gt (tgt := 1139) hx hb dL_40 (by decide) (fun c1 => ?_) (fun c1 => ?_)
    · refine lv_iconst (v := (1 : Int32)) hx hb dL_1139 (by decide) ?_
      refine va_forget (fun q hq => hW.2.2.2.1.2.2 q hq) ?_
      refine W.widen (k := 601024) (n := 7293000) (by omega) (by omega) ?_
      exact lw_ret hx hb hr hlocks dL_1140
    · rw [ex4, law_lt hL (by omega)] at c1
      exact absurd c1 (by omega)
  | succ n ih =>
    intro i x4 cells slots ex4 hin hi hcc hss σ τ v H locs ls hI hl hW
    refine lv_iload hx hb dL_33 (lv_at hl 4 rfl) ?_
    refine lv_aload_n hx hb dL_35 rfl (lv_at hl 0 rfl) ?_
    refine va_slen hx hb hX hbl hbA hW.2.2.2.1 dL_36 ?_
    refine lv_bipush (v := (6 : Int32)) hx hb dL_37 (by decide) ?_
    refine lv_isub hx hb dL_39 ?_
    refine lv_icmp_gt (tgt := 1139) hx hb dL_40 (by decide) (fun c1 => ?_) (fun c1 => ?_)
    · refine lv_iconst (v := (1 : Int32)) hx hb dL_1139 (by decide) ?_
      refine va_forget (fun q hq => hW.2.2.2.1.2.2 q hq) ?_
      refine W.widen (k := 601024) (n := 7293000) (by omega) (by omega) ?_
      exact lw_ret hx hb hr hlocks dL_1140
    · rw [ex4, law_lt hL (by omega)] at c1
      have hik := law_in hL ex4 (show i + 6 ≤ L by omega)
      have hx0 : vp_in x4 L := by rw [ex4]; exact vp_in_nI (by omega) (by omega)
      have nxt : lw_next p l e s m below meth c b J Inv x4 cells slots := by
        intro σ τ v H locs ls hI hl hW
        refine lv_iinc (v := (x4 + (6 : Int32))) (lv' := [(4, .int (x4 + (6 : Int32))), (0, .ref b), (1, .ref (ka (jX J) 0)), (2, .ref (ka (jM J) 0)), (3, .ref (jq J))]) hx hb dL_1133 hl (k := 4) rfl rfl (by decide) rfl (fun ls hl => ?_)
        refine lv_goto (tgt := 33) hx hb dL_1136 (by decide) ?_
        exact ih (i + 6) (x4 + 6) (cells + 5) (slots + 25) (by rw [ex4]; exact nI_add i 6) (by omega) (by omega) (by omega) (by omega) σ τ v H locs ls hI (lv_sub hl [1, 2, 3, 4, 0] rfl) hW
      have hcc' : cells + 5 ≤ 601024 := by omega
      have hss' : slots + 25 ≤ 7293000 := by omega
      refine lv_aload_n hx hb dL_43 rfl (lv_at hl 0 rfl) ?_
      refine lv_iload hx hb dL_44 (lv_at hl 4 rfl) ?_
      refine va_sld hx hb hX hbl hbA hW.2.2.2.1 hx0 dL_46 ?_
      refine lv_bipush (v := (31 : Int32)) hx hb dL_47 (by decide) ?_
      refine lv_iand hx hb dL_49 ?_
      generalize (xs x4.toNatClampNeg &&& (31 : Int32)) = z
      rcases Decidable.em (z = (0 : Int32)) with e0 | e0
      · refine lv_tableIn (tgt := 136) hx hb dL_50 (by rw [e0]; decide) (by rw [e0]; decide) (by rw [e0]; rfl) (by decide) ?_
        exact lc_feed F hl9 hZ hN hX hbl St hcc' hss' hik nxt σ τ v hI H locs ls hl hW
      rcases Decidable.em (z = (1 : Int32)) with e1 | e1
      · refine lv_tableIn (tgt := 207) hx hb dL_50 (by rw [e1]; decide) (by rw [e1]; decide) (by rw [e1]; rfl) (by decide) ?_
        exact lc_end F hl9 hZ hN hX hbl St hcc' hss' hik nxt σ τ v hI H locs ls hl hW
      rcases Decidable.em (z = (2 : Int32)) with e2 | e2
      · refine lv_tableIn (tgt := 232) hx hb dL_50 (by rw [e2]; decide) (by rw [e2]; decide) (by rw [e2]; rfl) (by decide) ?_
        exact lc_format F hl9 hZ hN hX hbl St hcc' hss' hik nxt σ τ v hI H locs ls hl hW
      rcases Decidable.em (z = (3 : Int32)) with e3 | e3
      · refine lv_tableIn (tgt := 312) hx hb dL_50 (by rw [e3]; decide) (by rw [e3]; decide) (by rw [e3]; rfl) (by decide) ?_
        exact lc_byteAt F hl9 hZ hN hX hbl St hcc' hss' hik nxt σ τ v hI H locs ls hl hW
      rcases Decidable.em (z = (4 : Int32)) with e4 | e4
      · refine lv_tableIn (tgt := 337) hx hb dL_50 (by rw [e4]; decide) (by rw [e4]; decide) (by rw [e4]; rfl) (by decide) ?_
        exact lc_fault F hl9 hZ hN hX hbl St hcc' hss' hik nxt σ τ v hI H locs ls hl hW
      rcases Decidable.em (z = (5 : Int32)) with e5 | e5
      · refine lv_tableIn (tgt := 350) hx hb dL_50 (by rw [e5]; decide) (by rw [e5]; decide) (by rw [e5]; rfl) (by decide) ?_
        exact lc_many F hl9 hZ hN hX hbl St hcc' hss' hik nxt σ τ v hI H locs ls hl hW
      rcases Decidable.em (z = (6 : Int32)) with e6 | e6
      · refine lv_tableIn (tgt := 375) hx hb dL_50 (by rw [e6]; decide) (by rw [e6]; decide) (by rw [e6]; rfl) (by decide) ?_
        exact lc_items F hl9 hZ hN hX hbl St hcc' hss' hik nxt σ τ v hI H locs ls hl hW
      rcases Decidable.em (z = (7 : Int32)) with e7 | e7
      · refine lv_tableIn (tgt := 419) hx hb dL_50 (by rw [e7]; decide) (by rw [e7]; decide) (by rw [e7]; rfl) (by decide) ?_
        exact lc_letter F hl9 hZ hN hX hbl St hcc' hss' hik nxt σ τ v hI H locs ls hl hW
      rcases Decidable.em (z = (8 : Int32)) with e8 | e8
      · refine lv_tableIn (tgt := 487) hx hb dL_50 (by rw [e8]; decide) (by rw [e8]; decide) (by rw [e8]; rfl) (by decide) ?_
        exact lc_about F hl9 hZ hN hX hbl St hcc' hss' hik nxt σ τ v hI H locs ls hl hW
      rcases Decidable.em (z = (9 : Int32)) with e9 | e9
      · refine lv_tableIn (tgt := 554) hx hb dL_50 (by rw [e9]; decide) (by rw [e9]; decide) (by rw [e9]; rfl) (by decide) ?_
        exact lc_content F hl9 hZ hN hX hbl St hcc' hss' hik nxt σ τ v hI H locs ls hl hW
      rcases Decidable.em (z = (10 : Int32)) with e10 | e10
      · refine lv_tableIn (tgt := 622) hx hb dL_50 (by rw [e10]; decide) (by rw [e10]; decide) (by rw [e10]; rfl) (by decide) ?_
        exact lc_enter F hl9 hZ hN hX hbl St hcc' hss' hik nxt σ τ v hI H locs ls hl hW
      rcases Decidable.em (z = (11 : Int32)) with e11 | e11
      · refine lv_tableIn (tgt := 678) hx hb dL_50 (by rw [e11]; decide) (by rw [e11]; decide) (by rw [e11]; rfl) (by decide) ?_
        exact lc_up F hl9 hZ hN hX hbl St hcc' hss' hik nxt σ τ v hI H locs ls hl hW
      rcases Decidable.em (z = (12 : Int32)) with e12 | e12
      · refine lv_tableIn (tgt := 729) hx hb dL_50 (by rw [e12]; decide) (by rw [e12]; decide) (by rw [e12]; rfl) (by decide) ?_
        exact lc_make F hl9 hZ hN hX hbl St hcc' hss' hik nxt σ τ v hI H locs ls hl hW
      rcases Decidable.em (z = (13 : Int32)) with e13 | e13
      · refine lv_tableIn (tgt := 801) hx hb dL_50 (by rw [e13]; decide) (by rw [e13]; decide) (by rw [e13]; rfl) (by decide) ?_
        exact lc_write F hl9 hZ hN hX hbl St hcc' hss' hik nxt σ τ v hI H locs ls hl hW
      rcases Decidable.em (z = (14 : Int32)) with e14 | e14
      · refine lv_tableIn (tgt := 857) hx hb dL_50 (by rw [e14]; decide) (by rw [e14]; decide) (by rw [e14]; rfl) (by decide) ?_
        exact lc_grow F hl9 hZ hN hX hbl St hcc' hss' hik nxt σ τ v hI H locs ls hl hW
      rcases Decidable.em (z = (15 : Int32)) with e15 | e15
      · refine lv_tableIn (tgt := 937) hx hb dL_50 (by rw [e15]; decide) (by rw [e15]; decide) (by rw [e15]; rfl) (by decide) ?_
        exact lc_cut F hl9 hZ hN hX hbl St hcc' hss' hik nxt σ τ v hI H locs ls hl hW
      rcases Decidable.em (z = (16 : Int32)) with e16 | e16
      · refine lv_tableIn (tgt := 1005) hx hb dL_50 (by rw [e16]; decide) (by rw [e16]; decide) (by rw [e16]; rfl) (by decide) ?_
        exact lc_remove F hl9 hZ hN hX hbl St hcc' hss' hik nxt σ τ v hI H locs ls hl hW
      rcases Decidable.em (z = (17 : Int32)) with e17 | e17
      · refine lv_tableIn (tgt := 1041) hx hb dL_50 (by rw [e17]; decide) (by rw [e17]; decide) (by rw [e17]; rfl) (by decide) ?_
        exact lc_stamp F hl9 hZ hN hX hbl St hcc' hss' hik nxt σ τ v hI H locs ls hl hW
      refine lv_tableOut (tgt := 1133) hx hb dL_50 (gw_out0_17 e0 e1 e2 e3 e4 e5 e6 e7 e8 e9 e10 e11 e12 e13 e14 e15 e16 e17) (by decide) ?_
      exact W.widen (k := cells + 5) (n := slots + 25) (by omega) (by omega) (nxt σ τ v H locs ls hI hl hW)
