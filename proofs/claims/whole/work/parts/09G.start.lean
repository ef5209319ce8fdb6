theorem q_4_191 : (.methodLink RX10 65 yX10_cell : Cond) ∈ gT := gT_mem (List.mem_append_right _ (List.mem_append_right _ (List.mem_append_right _ (List.mem_append_right _ (List.mem_append_left _ (List.mem_of_getElem? (l := tables_1_4) (i := 191) rfl)))))) rfl
theorem q_4_192 : (.static yX10_cell : Cond) ∈ gT := gT_mem (List.mem_append_right _ (List.mem_append_right _ (List.mem_append_right _ (List.mem_append_right _ (List.mem_append_left _ (List.mem_of_getElem? (l := tables_1_4) (i := 192) rfl)))))) rfl
theorem q_4_193 : (.code yX10_cell cX10_cell 2 (some .int) : Cond) ∈ gT := gT_mem (List.mem_append_right _ (List.mem_append_right _ (List.mem_append_right _ (List.mem_append_right _ (List.mem_append_left _ (List.mem_of_getElem? (l := tables_1_4) (i := 193) rfl)))))) rfl
theorem q_1_33 : (.instantiable RX0 11 : Cond) ∈ gT := gT_mem (List.mem_append_right _ (List.mem_append_left _ (List.mem_of_getElem? (l := tables_1_1) (i := 33) rfl))) rfl
theorem q_6_106 : (.instantiable RX12 33 : Cond) ∈ gT := gT_mem (List.mem_append_right _ (List.mem_append_right _ (List.mem_append_right _ (List.mem_append_right _ (List.mem_append_right _ (List.mem_append_right _ (List.mem_append_left _ (List.mem_of_getElem? (l := tables_1_6) (i := 106) rfl)))))))) rfl
theorem q_1_32 : (.classLink RX10 8 RX0 : Cond) ∈ gT := gT_mem (List.mem_append_right _ (List.mem_append_left _ (List.mem_of_getElem? (l := tables_1_1) (i := 32) rfl))) rfl
theorem q_1_36 : (.code yX0_init cX0_init 3 none : Cond) ∈ gT := gT_mem (List.mem_append_right _ (List.mem_append_left _ (List.mem_of_getElem? (l := tables_1_1) (i := 36) rfl))) rfl
theorem q_1_34 : (.methodLink RX10 71 yX0_init : Cond) ∈ gT := gT_mem (List.mem_append_right _ (List.mem_append_left _ (List.mem_of_getElem? (l := tables_1_1) (i := 34) rfl))) rfl
theorem q_1_35 : (.instanceMethod yX0_init : Cond) ∈ gT := gT_mem (List.mem_append_right _ (List.mem_append_left _ (List.mem_of_getElem? (l := tables_1_1) (i := 35) rfl))) rfl
theorem q_6_105 : (.classLink RX10 73 RX12 : Cond) ∈ gT := gT_mem (List.mem_append_right _ (List.mem_append_right _ (List.mem_append_right _ (List.mem_append_right _ (List.mem_append_right _ (List.mem_append_right _ (List.mem_append_left _ (List.mem_of_getElem? (l := tables_1_6) (i := 105) rfl)))))))) rfl
theorem q_6_109 : (.code yX12_init cX12_init 2 none : Cond) ∈ gT := gT_mem (List.mem_append_right _ (List.mem_append_right _ (List.mem_append_right _ (List.mem_append_right _ (List.mem_append_right _ (List.mem_append_right _ (List.mem_append_left _ (List.mem_of_getElem? (l := tables_1_6) (i := 109) rfl)))))))) rfl
theorem q_6_107 : (.methodLink RX10 75 yX12_init : Cond) ∈ gT := gT_mem (List.mem_append_right _ (List.mem_append_right _ (List.mem_append_right _ (List.mem_append_right _ (List.mem_append_right _ (List.mem_append_right _ (List.mem_append_left _ (List.mem_of_getElem? (l := tables_1_6) (i := 107) rfl)))))))) rfl
theorem q_6_108 : (.instanceMethod yX12_init : Cond) ∈ gT := gT_mem (List.mem_append_right _ (List.mem_append_right _ (List.mem_append_right _ (List.mem_append_right _ (List.mem_append_right _ (List.mem_append_right _ (List.mem_append_left _ (List.mem_of_getElem? (l := tables_1_6) (i := 108) rfl)))))))) rfl
def cellv (L : Nat) (xs : Nat → Int32) : Int32 := if L = 0 then 0 else xs 0
abbrev rcell : Room := { frames := 0, cells := 0, slots := 0, locals := 0 }
set_option maxHeartbeats 4000000 in
theorem kcell {l : Launch} {b L : Nat} {xs : Nat → Int32} (hL : L ≤ 3073) : Met l yX10_cell wsX10_cell rcell (va_Pc [.ref b, .int 0] (fun V => va_X b L xs V V.heap)) (va_Qi (fun r (_ : Unit) => r = cellv L xs) (fun _ _ => True) (fun _ => False)) 0 0 (fun _ => False) := by
  refine Met.ofW (cc := cX10_cell) (maxL := 2) (ret := some .int) (by decide +kernel) rfl ?_
  intro p e s m args below meth c s₁ B hml hv
  obtain ⟨rfl, hX⟩ := hv
  have hx := B.exec
  have hb := B.bytes
  have hbl : b < s.heap.size := by
    obtain ⟨scr, h1, -⟩ := hX
    exact (Array.getElem?_eq_some_iff.mp h1).1
  have hbA : ¬ (fun _ : Nat => False) b := id
  have hS : va_S (fun _ : Nat => False) s.heap s.heap [] := va_S.rf
  have hl := lv_entry ([.ref b, .int 0]) (n := 2) (Nat.le_of_ble_eq_true rfl)
  rw [lg_entry_eq]
  generalize (lg_sl ([.ref b, .int 0]) ++ List.replicate (2 - (lg_sl ([.ref b, .int 0])).length) Slot.unset).toArray = ls at hl ⊢
  have hl : lv_has ls 2 [(0, .ref b), (1, .int 0)] := hl
  refine lv_iload_n hx hb dX10_cell_0 rfl (lv_at hl 1 rfl) ?_
  refine lv_aload_n hx hb dX10_cell_1 rfl (lv_at hl 0 rfl) ?_
  refine va_slen hx hb hX hbl hbA hS dX10_cell_2 ?_
  refine lv_icmp_ge (tgt := 12) hx hb dX10_cell_3 (by decide) (fun c1 => ?_) (fun c1 => ?_)
  · have h0 : L = 0 := by
      rcases Nat.eq_zero_or_pos L with h | h
      · exact h
      · exact absurd c1 (nI_nle h (by omega))
    refine lv_iconst (v := (0 : Int32)) hx hb dX10_cell_12 (by decide) ?_
    exact W.iret (v := 0) hx hb B.returns (fun t ht hW => ⟨⟨0, (), rfl, by unfold cellv; rw [if_pos h0], trivial⟩, hS.F ht⟩) hS.2.2 dX10_cell_13 B.notSynchronized
  · have h0 : ¬ L = 0 := fun h => c1 (by rw [h]; decide)
    refine lv_aload_n hx hb dX10_cell_6 rfl (lv_at hl 0 rfl) ?_
    refine lv_iload_n hx hb dX10_cell_7 rfl (lv_at hl 1 rfl) ?_
    refine va_sld hx hb hX hbl hbA hS (show vp_in (nI 0) L from vp_in_nI (by omega) (by omega)) dX10_cell_8 ?_
    refine lv_goto (tgt := 13) hx hb dX10_cell_9 (by decide) ?_
    exact W.iret (v := xs (0 : Int32).toNatClampNeg) hx hb B.returns (fun t ht hW => ⟨⟨_, (), rfl, by unfold cellv; rw [if_neg h0]; rfl, trivial⟩, hS.F ht⟩) hS.2.2 dX10_cell_13 B.notSynchronized
set_option maxHeartbeats 4000000 in
theorem gc_cell {p : Program} {l : Launch} {e : Env} {s : State} {m : MethodId} {args : Array Value} {below : List Frame} {meth : Method} {c : Code} {H : Heap} {locs : List Loc} {cells slots : Nat} {Q : State → Prop} {D : va_G} {tys : List (ClassId × FieldType)} {A : Nat → Prop} {ws : va_W} {b L pc : Nat} {xs : Nat → Int32} {ls : Array Slot} {rest : List Value}
    (F : fx_ p s m args meth c code 8 ret "InodeDeskLaw" (Cond.initialized "InodeDeskLaw" :: gT)) (hL : L ≤ 3073) (hX : va_X b L xs s s.heap) (hbl : b < s.heap.size) (hbA : ¬ A b) (hW : gc_ D vwCl tys A s ws H locs) (hsize : ls.size = 8) (hroom : (rest.map fun v => v.category).sum ≤ 8) (hdg : decode code pc = .ok (.invokestatic 65, 3)) (hf : cells + 0 ≤ 601024 ∧ slots + 0 ≤ 7293000)
    (kk : ∀ (H1 : Heap) (locs1 : List Loc), gc_ D vwCl tys A s ws H1 locs1 → W p l e room_1 s m args below meth c H1 locs1 cells slots Q (F0 m (pc + 3) ls (.int (cellv L xs) :: rest))) : W p l e room_1 s m args below meth c H locs cells slots Q (F0 m pc ls (.int 0 :: .ref b :: rest)) := by
  obtain ⟨hK, hP, hD, hS, hA⟩ := hW
  have hXH : va_X b L xs s H := hX.kept (hS.2.1 b hbl hbA)
  refine va_calli (va_runS (As := [.ref b, .int 0]) (rest := rest) (gw_fix F) (kcell (xs := xs) hL) (va_cwS 2 F.2.2.2.2.2.1 (gT_S q_4_191 q_4_192 q_1_0 q_4_193) rfl rfl rfl hdX10_cell.2 ⟨Nat.le_of_ble_eq_true rfl, Nat.le_of_ble_eq_true rfl⟩) ⟨fun a U g mk q => ⟨q.1, va_X.moved (u := U) (U := U.calling g mk a) (Vm.Alike.refl U.vm) q.2⟩, fun U hU hW => ⟨rfl, by show va_X b L xs U U.heap; rw [hU]; exact hXH.moved hW.alike⟩⟩ rfl rfl hsize rfl (lv_room hroom) hdg hf) hS (fun q _ h => h.elim) (fun q h => h.elim) (fun r u t H1 locs1 ht hvm hw hB hz1 hk1 hS1 => ?_)
  rw [hw]
  exact kk H1 locs1 ⟨hK, hP.kept (fun k q hk => hk1 q.1 ((hP k q hk).lt) id), hD, hS1, hA⟩
theorem st_xb {s : State} {args : Array Value} (h : ∀ w ∈ lw_tbl, w.before args s = true) : xb_ s := fun w hw => va_Nw.of ((by decide +kernel : ∀ w ∈ xbad, w.onTables = true) w hw) (h w ((by decide +kernel : ∀ w ∈ xbad, w ∈ lw_tbl) w hw))
theorem st_xn {s : State} {args : Array Value} (h : (Jvm.Cond.and given_1 narrow_1).before args s = true) : xn_ s := by
  intro x hx y hy hn
  refine va_Nc.of (flat_of_before _ h _ ?_)
  exact (by decide +kernel : ∀ x ∈ xE, ∀ y ∈ xE, x ≠ y → Cond.not (.castable x y) ∈ flatC (Jvm.Cond.and given_1 narrow_1)) x hx y hy hn
theorem st_xz {s : State} {args : Array Value} {cD : ClassId} (ht : ∀ w ∈ lw_tbl, w.before args s = true) (h : (Jvm.Cond.and given_1 narrow_1).before args s = true) (hc : s.vm.findClass "InodeDesk" = some cD) : xz_ (fun q : Nat => s.heap.size ≤ q) s := by
  have hA : ∀ a : Nat, a < s.heap.size → ¬ (fun q : Nat => s.heap.size ≤ q) a := fun a h => Nat.not_le.mpr h
  refine ⟨fun x hx => ?_, fun x hx => ?_⟩
  · have h1 : (Cond.laysStatic "java/lang/Throwable" x.1 x.2).before args s = true := ht _ ((by decide +kernel : ∀ x ∈ xst, Cond.laysStatic "java/lang/Throwable" x.1 x.2 ∈ lw_tbl) x hx)
    have h2 : (Cond.isRef (.static "java/lang/Throwable" x.1 x.2)).before args s = true := flat_of_before _ h _ ((by decide +kernel : ∀ x ∈ xst, Cond.isRef (.static "java/lang/Throwable" x.1 x.2) ∈ flatC (Jvm.Cond.and given_1 narrow_1)) x hx)
    exact ⟨va_Zqof h1 (ht _ (by decide +kernel)) h2 hA, xl_of h1 hA⟩
  · have h1 : (Cond.stringRef "InodeDesk" x.1 x.2).before args s = true := ht _ ((by decide +kernel : ∀ x ∈ xstr, Cond.stringRef "InodeDesk" x.1 x.2 ∈ lw_tbl) x hx)
    obtain ⟨k, cf, i, a, -, -, -, -, -, hev⟩ := Cond.stringRef_spec hc h1
    exact ⟨a, vk_R.of h1 hev⟩
def sX0 : XS := (fun k => if k = 1 then 2 else 0, fun _ _ => 0, fun _ _ => 0)
def sM0 : XS := (fun _ => 0, fun _ _ => 0, fun _ _ => 0)
set_option maxHeartbeats 8000000 in
set_option maxRecDepth 100000 in
theorem whole_open {p : Program} {e : Env} {s : State} {m : MethodId} {below : List Frame} {meth : Method} {c : Code} (l : Launch) (hl9 : l.stackTraces = false) (INV : Nat → XS → XS → Prop) (hSt : ∀ nb, 128 ≤ nb → nb ≤ 512 → St_all nb (INV nb)) (h0 : ∀ nb, 128 ≤ nb → nb ≤ 512 → INV nb sX0 sM0) {b L : Nat} {xs : Nat → Int32} (hL : L ≤ 3073) (C0 : lw_At p s m meth c b L xs) : W p l e room_1 s m #[Value.ref b] below meth c s.heap [] 0 0 (lw_Z below #[Value.ref b] s) (entryFrame m ([Value.ref b] : List Value).toArray 8) := by
  obtain ⟨hx, hb, hr, hml, hown, hts0, hX, hbl, hlocks, hgv⟩ := id C0
  have hG : ∀ x ∈ gT, x.before #[Value.ref b] s = true := fun x h => hts0 x (List.mem_filter.mp h).1
  have F : fx_ p s m #[Value.ref b] meth c code 8 ret "InodeDeskLaw" (Cond.initialized "InodeDeskLaw" :: gT) := ⟨hx, hb, hr, hml, hown, fun x h => (List.mem_cons.mp h).elim (fun e => by rw [e]; exact hG _ q_1_0) (hG x), hlocks⟩
  have hts := F.2.2.2.2.2.1
  have hbA : ¬ (fun q : Nat => s.heap.size ≤ q) b := Nat.not_le.mpr hbl
  obtain ⟨c0, iS0, hKn0⟩ := u_known (C := RX0) (T := TX0) (N := 11) (n := 11) hG in_X0 (hG _ q_1_33)
  obtain ⟨c1, iS1, hKn1⟩ := u_known (C := RX1) (T := TX1) (N := 1) (n := 1) hG in_X1 (hG _ q_1_47)
  obtain ⟨c2, iS2, hKn2⟩ := u_known (C := RX2) (T := TX2) (N := 4) (n := 4) hG in_X2 (hG _ q_1_59)
  obtain ⟨c3, iS3, hKn3⟩ := u_known (C := RX3) (T := TX3) (N := 6) (n := 6) hG in_X3 (hG _ q_1_78)
  obtain ⟨c4, iS4, hKn4⟩ := u_known (C := RX4) (T := TX4) (N := 3) (n := 3) hG in_X4 (hG _ q_1_103)
  obtain ⟨c5, iS5, hKn5⟩ := u_known (C := RX5) (T := TX5) (N := 4) (n := 4) hG in_X5 (hG _ q_1_119)
  obtain ⟨c6, iS6, hKn6⟩ := u_known (C := RX6) (T := TX6) (N := 4) (n := 4) hG in_X6 (hG _ q_1_139)
  obtain ⟨c7, iS7, hKn7⟩ := u_known (C := RX7) (T := TX7) (N := 11) (n := 11) hG in_X7 (hG _ q_1_158)
  obtain ⟨c8, iS8, hKn8⟩ := u_known (C := RX8) (T := TX8) (N := 3) (n := 3) hG in_X8 (hG _ q_1_205)
  obtain ⟨c9, iS9, hKn9⟩ := u_known (C := RX11) (T := TX11) (N := 1) (n := 1) hG in_X11 (hG _ q_6_41)
  obtain ⟨c10, iS10, hKn10⟩ := u_known (C := RX12) (T := TX12) (N := 33) (n := 33) hG in_X12 (hG _ q_6_106)
  obtain ⟨dC, dI, hKc⟩ : ∃ (dC : Nat → ClassId) (dI : Nat → Nat → Nat), ∀ (k : Nat) (q : vw_C), vwCl[k]? = some q → u_Kn s q.1 q.2.1 q.2.2 (dC k) (dI k) := by
    refine ⟨fun k => [c0, c1, c2, c3, c4, c5, c6, c7, c8, c9, c10].getD k 0, fun k => [iS0, iS1, iS2, iS3, iS4, iS5, iS6, iS7, iS8, iS9, iS10].getD k (fun _ => 0), ?_⟩
    intro k q hq
    match k, hq with
    | 0, hq => cases hq; exact hKn0
    | 1, hq => cases hq; exact hKn1
    | 2, hq => cases hq; exact hKn2
    | 3, hq => cases hq; exact hKn3
    | 4, hq => cases hq; exact hKn4
    | 5, hq => cases hq; exact hKn5
    | 6, hq => cases hq; exact hKn6
    | 7, hq => cases hq; exact hKn7
    | 8, hq => cases hq; exact hKn8
    | 9, hq => cases hq; exact hKn9
    | 10, hq => cases hq; exact hKn10
    | k + 11, hq => simp [vwCl] at hq
  have hZ := st_xz hts0 hgv (hKc 0 _ rfl).2.1
  have hN := st_xn hgv
  have hW : gc_ (dC, dI) vwCl [] (fun q : Nat => s.heap.size ≤ q) s [] s.heap [] := ⟨⟨⟨hKc, fun k q h => by simp at h⟩, st_xb hts0⟩, fun k q h => by simp at h, ⟨fun i j p q h => by simp at h, fun k q h => by simp at h⟩, va_S.rf, fun _ h => h⟩
  have hl := lv_entry ([.ref b]) (n := 8) (Nat.le_of_ble_eq_true rfl)
  rw [lg_entry_eq]
  generalize (lg_sl ([.ref b]) ++ List.replicate (8 - (lg_sl ([.ref b])).length) Slot.unset).toArray = ls at hl ⊢
  have hl : lv_has ls 8 [(0, .ref b)] := hl
  refine gc_new (ci := 0) (mc' := 1) (ms' := 11) (fs := [.null, .null, .null, .null, .null, .null, .null, .null, .null, .int 0, .int 0]) F hW inc_X0 tyX0 tyX0_ok (hG _ q_1_32) (hG _ q_1_33) (hG _ q_1_1) rfl (fun j hj => by rcases (show j = 0 ∨ j = 1 ∨ j = 2 ∨ j = 3 ∨ j = 4 ∨ j = 5 ∨ j = 6 ∨ j = 7 ∨ j = 8 ∨ j = 9 ∨ j = 10 by omega) with rfl | rfl | rfl | rfl | rfl | rfl | rfl | rfl | rfl | rfl | rfl <;> rfl) (Nat.le_of_ble_eq_true rfl) (Nat.le_of_ble_eq_true rfl) dL_0 rfl rfl (fun qd H hW => ?_)
  refine lv_dup hx hb dL_3 rfl ?_
  refine lv_aload_n hx hb dL_4 rfl (lv_at hl 0 rfl) ?_
  refine lv_iconst (v := (0 : Int32)) hx hb dL_5 (by decide) ?_
  refine gc_cell F hL hX hbl hbA hW hl.1 (Nat.le_of_ble_eq_true rfl) dL_6 ⟨(Nat.le_of_ble_eq_true rfl), (Nat.le_of_ble_eq_true rfl)⟩ (fun H locs hW => ?_)
  refine gc_I (As := [.int (cellv L xs)]) (mc' := 19) (ms' := 1059966) F hW (kDesk (x1 := cellv L xs)) (cwI 1 hts (gT_I q_1_36) rfl rfl rfl (hG _ q_1_1) (hG _ q_1_34) (hG _ q_1_35) rfl hdX0_init.2 ⟨(Nat.le_of_ble_eq_true rfl), (Nat.le_of_ble_eq_true rfl)⟩) rfl hl.1 rfl (Nat.le_of_ble_eq_true rfl) dL_9 ⟨(Nat.le_of_ble_eq_true rfl), (Nat.le_of_ble_eq_true rfl)⟩ rfl rfl (fun u H locs hW => ?_)
  obtain ⟨dq1, dq2, dcA3, dq4, dq5, dq6, dq7, dq8, dq9, dcA10, dq11, dq12, dq13, dq14, dcA15, dq16, dcA17, dq18, dcA19, dq20, dcA21, dq22, dq23, dcA24, dq25, dcA26⟩ := u
  refine lv_astore_n (lv' := [(1, .ref qd), (0, .ref b)]) hx hb dL_12 rfl hl (by decide) rfl (fun ls hl => ?_)
  refine gc_new (ci := 10) (mc' := 20) (ms' := 1059999) (fs := [.int 0, .int 0, .null, .null, .null, .null, .int 0, .int 0, .int 0, .int 0, .int 0, .int 0, .int 0, .int 0, .null, .null, .null, .null, .null, .null, .null, .null, .null, .null, .null, .null, .null, .int 0, .int 0, .int 0, .null, .int 0, .int 0]) F hW inc_X12 tyX12 tyX12_ok (hG _ q_6_105) (hG _ q_6_106) (hG _ q_1_12) rfl (fun j hj => by rcases (show j = 0 ∨ j = 1 ∨ j = 2 ∨ j = 3 ∨ j = 4 ∨ j = 5 ∨ j = 6 ∨ j = 7 ∨ j = 8 ∨ j = 9 ∨ j = 10 ∨ j = 11 ∨ j = 12 ∨ j = 13 ∨ j = 14 ∨ j = 15 ∨ j = 16 ∨ j = 17 ∨ j = 18 ∨ j = 19 ∨ j = 20 ∨ j = 21 ∨ j = 22 ∨ j = 23 ∨ j = 24 ∨ j = 25 ∨ j = 26 ∨ j = 27 ∨ j = 28 ∨ j = 29 ∨ j = 30 ∨ j = 31 ∨ j = 32 by omega) with rfl | rfl | rfl | rfl | rfl | rfl | rfl | rfl | rfl | rfl | rfl | rfl | rfl | rfl | rfl | rfl | rfl | rfl | rfl | rfl | rfl | rfl | rfl | rfl | rfl | rfl | rfl | rfl | rfl | rfl | rfl | rfl | rfl <;> rfl) (Nat.le_of_ble_eq_true rfl) (Nat.le_of_ble_eq_true rfl) dL_13 rfl rfl (fun qm H hW => ?_)
  refine lv_dup hx hb dL_16 rfl ?_
  refine lv_aload_n hx hb dL_17 rfl (lv_at hl 1 rfl) ?_
  refine lv_iconst (v := (0 : Int32)) hx hb dL_18 (by decide) ?_
  refine gc_cell F hL hX hbl hbA hW hl.1 (Nat.le_of_ble_eq_true rfl) dL_19 ⟨(Nat.le_of_ble_eq_true rfl), (Nat.le_of_ble_eq_true rfl)⟩ (fun H locs hW => ?_)
  refine gc_I (As := [.int (cellv L xs)]) (mc' := 38) (ms' := 2141270) F hW (kModel (x1 := cellv L xs)) (cwI 1 hts (gT_I q_6_109) rfl rfl rfl (hG _ q_1_12) (hG _ q_6_107) (hG _ q_6_108) rfl hdX12_init.2 ⟨(Nat.le_of_ble_eq_true rfl), (Nat.le_of_ble_eq_true rfl)⟩) rfl hl.1 rfl (Nat.le_of_ble_eq_true rfl) dL_22 ⟨(Nat.le_of_ble_eq_true rfl), (Nat.le_of_ble_eq_true rfl)⟩ rfl rfl (fun u H locs hW => ?_)
  obtain ⟨mq1, mcA2, mq3, mcA4, mq5, mcA6, mq7, mcA8, mq9, mcA10, mq11, mcA12, mq13, mcA14, mq15, mcA16, mq17, mcA18, mq19, mcA20, mq21, mcA22, mq23, mcA24, mq25, mcA26, mq27, mcA28, mq29, mcA30, mq31, mcA32, mq33, mcA34, mq35, mcA36⟩ := u
  refine lv_astore_n (lv' := [(2, .ref qm), (1, .ref qd), (0, .ref b)]) hx hb dL_25 rfl hl (by decide) rfl (fun ls hl => ?_)
  refine lv_iconst (v := (1 : Int32)) hx hb dL_26 (by decide) ?_
  refine gc_newl (N := 1) (mc' := 39) (ms' := 2141271) F hW (hG _ q_6_213) (by decide) (by decide) (by decide) (Nat.le_of_ble_eq_true rfl) (Nat.le_of_ble_eq_true rfl) dL_27 rfl rfl (fun qo co H hW => ?_)
  refine lv_astore_n (lv' := [(3, .ref qo), (2, .ref qm), (1, .ref qd), (0, .ref b)]) hx hb dL_29 rfl hl (by decide) rfl (fun ls hl => ?_)
  refine lv_iconst (v := (1 : Int32)) hx hb dL_30 (by decide) ?_
  refine lv_istore (lv' := [(4, .int 1), (3, .ref qo), (2, .ref qm), (1, .ref qd), (0, .ref b)]) hx hb dL_31 hl (by decide) rfl (fun ls hl => ?_)
  obtain ⟨J, hJ⟩ : ∃ J : LJ, J = ((dC, dI), (fun i => [qd, dq1, dq2, dq4, dq5, dq6, dq7, dq8, dq9, dq11, dq12, dq13, dq14, dq20, dq16, dq18, dq22, dq23, dq25].getD i 0, fun i => [dcA3, dcA10, dcA15, dcA21, dcA17, dcA19, dcA24, dcA26].getD i 0), (fun i => [qm, mq1, mq3, mq5, mq7, mq9, mq11, mq13, mq15, mq17, mq19, mq21, mq23, mq25, mq27, mq29, mq31, mq33, mq35].getD i 0, fun i => [mcA2, mcA4, mcA6, mcA8, mcA10, mcA12, mcA14, mcA16, mcA18, mcA20, mcA22, mcA24, mcA26, mcA28, mcA30, mcA32, mcA34, mcA36].getD i 0), qo, co, nbOf (cellv L xs)) := ⟨_, rfl⟩
  have hn : jn J = nbOf (cellv L xs) := by rw [hJ]; rfl
  have hW : gw_ (kD (KC J sM0 (fun _ => 0))) vwCl (tyX (KC J sM0 (fun _ => 0))) (wX (KC J sM0 (fun _ => 0))) (fun q : Nat => s.heap.size ≤ q) s sX0 H locs := by
    subst hJ
    exact gc_re hW [38, 37, 36, 35, 34, 33, 32, 31, 30, 29, 28, 27, 26, 23, 25, 24, 22, 21, 20, 0, 19, 18, 17, 16, 15, 14, 13, 12, 11, 10, 9, 8, 7, 6, 5, 4, 3, 2, 1] [26, 25, 24, 21, 23, 22, 20, 19, 0, 18, 17, 16, 15, 14, 13, 12, 11, 10, 9, 8, 7, 6, 5, 4, 3, 2, 1] rfl rfl rfl
  have hl : lv_has ls 8 [(0, .ref b), (1, .ref (ka (jX J) 0)), (2, .ref (ka (jM J) 0)), (3, .ref (jq J)), (4, .int (nI 1))] := by subst hJ; exact lv_sub hl [4, 3, 2, 1, 0] rfl
  exact law_loop F hl9 hZ hN hX hbl hL (by rw [hn]; exact hSt _ (nbOf_in _).1 (nbOf_in _).2.1) 513 1 (nI 1) 39 2141271 rfl (by omega) (by omega) (by decide) (by decide) sX0 sM0 (fun _ => 0) H locs ls (h0 _ (nbOf_in _).1 (nbOf_in _).2.1) hl hW
