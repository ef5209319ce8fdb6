-- MY KIT for the law: methods with handlers, two systems side by side
def xE : List String := ["java/lang/IllegalStateException", "java/lang/IndexOutOfBoundsException", "java/lang/IllegalArgumentException", "java/lang/UnsupportedOperationException"]
/-- no two of the exceptions' classes are one above the other -/
def xn_ (U : State) : Prop := ∀ x ∈ xE, ∀ y ∈ xE, x ≠ y → va_Nc x y U
theorem xn_moved {u U : State} (hvm : u.vm.Alike U.vm) (h : xn_ u) : xn_ U := fun x hx y hy hn => va_Nc.moved hvm (h x hx y hy hn)
section GH
variable {p : Program} {l : Launch} {e : Env} {R : Room} {s : State} {m : MethodId} {args : Array Value} {below : List Frame} {meth : Method} {c : Code} {H : Heap} {locs : List Loc} {cells slots : Nat} {Q : State → Prop}
variable {S : Type} {D : va_G} {cl : List vw_C} {tys : List (ClassId × FieldType)} {w : S → va_W} {A : Nat → Prop} {σ : S}
variable {cc : ByteArray} {nL pc : Nat} {ret : Option FieldType} {own : String} {Ts : List Cond} {ls : Array Slot} {rest st0 : List Value}
variable {y : MethodName} {bytes : ByteArray} {maxL n index : Nat} {yret : Option FieldType} {yws : List Cond} {rm : Room} {b : Nat} {As : List Value} {C : String}
theorem gh_table {ws ws' : List Cond} {hh : List (Nat × Nat × Nat × Nat)} {s₁ : State} (hw : ws = Cond.codeWith y cc maxL ret hh :: ws') (B : BodyLoose p l y (headSpec ws rm) cc maxL ret e s m args below meth c s₁) : c.exceptionTable.toList = tableOf hh := by
  obtain ⟨m9, me, co, hn9, h1, h2, -, -, h6, -⟩ := Cond.codeWith_spec (atoms_spec (ws := ws) B.pre _ (by rw [hw]; exact List.mem_cons_self))
  cases Option.some.inj (hn9.symm.trans B.named)
  cases Option.some.inj (h1.symm.trans B.method)
  cases Option.some.inj (h2.symm.trans (Stand.of_body B).code)
  rw [← h6, table_eq]
/-- the callee throws exN k, and a row of this method's table takes it -/
theorem gx_catch {k : Nat} {u : S} {name : String} (F : fx_ p s m args meth c cc nL ret own Ts) (hZ : xz_ A s) (hW : gw_ D cl tys w A s σ H locs)
    (hM : tw_Met l y yws rm (va_Pc (.ref b :: As) (gx_P D cl tys w H.size σ)) (tx_ (exN k) (gw_B D cl tys w (va_A (w σ) H.size) u) (va_A (w σ) H.size)) rm.cells rm.slots (va_A (w σ) H.size)) (cw : CallW R s args own C index y bytes maxL yret yws rm rm.cells rm.slots n) (q0 ci : Nat) {fs : List Value} {T : u_T} {N : Nat} (he : (w σ)[q0]? = some (b, .inr (ci, fs))) (hc : cl[ci]? = some (C, T, N)) (hn : As.length = n) (hsize : ls.size = nL) (hst : st0 = As.reverse ++ .ref b :: rest) (hroom : (rest.map fun v => v.category).sum ≤ 8) (hdg : decode cc pc = .ok (.invokevirtual index, 3)) (hf : cells + rm.cells ≤ R.cells ∧ slots + rm.slots ≤ R.slots) {mc' ms' : Nat} (hmc : cells + rm.cells = mc') (hms : slots + rm.slots = ms')
    (pre : List ExceptionTableEntry) (x : ExceptionTableEntry) (suf : List ExceptionTableEntry) (hsplit : c.exceptionTable.toList = pre ++ x :: suf) (hpass : ∀ z ∈ pre, z.catchType ≠ 0 ∧ ∃ nm : String, (Cond.classLink own z.catchType nm).before args s = true ∧ va_Nc (exN k) nm s) (hx : covers x pc = true) (h0 : x.catchType ≠ 0) (hlink : (Cond.classLink own x.catchType name).before args s = true) (hcast : (Cond.castable (exN k) name).before args s = true)
    (kk : ∀ (q : Nat) (H1 : Heap) (locs1 : List Loc), gw_ D cl tys w A s u H1 locs1 → W p l e R s m args below meth c H1 locs1 mc' ms' Q (F0 m x.handlerPc ls [.ref q])) :
    W p l e R s m args below meth c H locs cells slots Q (F0 m pc ls st0) := by
  subst hmc; subst hms
  obtain ⟨⟨hrc, hrs, hfr, hlo, hws, hcw, hcode, hini, hy, hlen, hl⟩, hin, hse⟩ := cw
  obtain ⟨hexec, hb, -, hml, hown, -, hlocks⟩ := F
  have hW0 := hW
  obtain ⟨hK, hP, hD, hS, hA⟩ := hW
  have hFc := gw_free (w := w) (σ := σ) hD (sz := H.size) (fun q h => hA q (Nat.le_trans hS.1 h))
  obtain ⟨cellB, hcB, hoB, hclB⟩ := va_recv hK.1 hP hc he
  have hBk : BackT l R p e below s args y 3 8 (PreOf R rm.cells rm.slots (va_Pc (.ref b :: As) (gx_P D cl tys w H.size σ))) (tw_Post (tx_ (exN k) (gw_B D cl tys w (va_A (w σ) H.size) u) (va_A (w σ) H.size)) rm.cells rm.slots (va_A (w σ) H.size)) :=
    tw_back (bytes := bytes) (maxL := maxL) (ret := yret) hM gx_blind rfl rfl hfr hlo hws hcw (fun a' U hW => word_at hW (Or.inl (by first | rfl | simp [Cond.onTables, Cond.keeps, Cond.steady])) hini)
  intro T0 hT0 X
  obtain ⟨q, vm₁, ⟨U', l2, c2, s2⟩, hW1, X', ⟨g', mk, t, L, e1, e2, hx1, h1, hL, h2, h3⟩, st⟩ := tw_callV X hexec hown hl hin hse hcode hy hBk (by rw [hT0]; exact hcB) hoB hclB (g := F0 m pc ls st0) rfl (hsize.trans hml.symm) (As := As) (rest := rest) (fun sig h => hn.trans (hlen sig h)) hst (lv_room hroom) (by rw [hb]; exact hdg) (fun vm₁ hW₁ => ⟨hf.1, hf.2, gx_pre hZ hW0 (T0.setVm vm₁) hT0 hW₁⟩)
  dsimp only [Pt.U, Pt.locs, Pt.cells, Pt.slots] at X' e1 e2 h1 h2 h3 st
  subst h1; subst h2; subst h3
  obtain ⟨⟨ce, hce, hcv, hcl⟩, ⟨hP1, hK1, hD1⟩, hF⟩ := hx1
  have hcl' : s.vm.findClass (exN k) = some ce.cls := by
    have h9 : vm₁.findClass (exN k) = some ce.cls := hcl
    rw [hW1.alike.findClass] at h9
    exact h9
  have hFz : H.size ≤ t.heap.size ∧ ∀ q : Nat, q < H.size → ¬ va_A (w σ) H.size q → t.heap[q]? = H[q]? := by
    obtain ⟨z1, z2⟩ := hF
    have hh : ((T0.setVm vm₁).calling g' mk (Value.ref b :: As).toArray).heap = H := hT0
    rw [hh] at z1 z2
    exact ⟨z1, z2⟩
  have hpl : e.platform.magicAccessors = ({} : Platform).magicAccessors := by rw [X'.admits.platform]
  obtain ⟨c3, c4, hc3, hc4, hasg⟩ := Cond.castable_spec hcast
  cases Option.some.inj (hc3.symm.trans hcl')
  obtain ⟨c5, hc5, hcl5⟩ := Cond.classLink_spec hown hlink e.platform hpl
  cases Option.some.inj (hc4.symm.trans hc5)
  obtain ⟨vm', X2, st2⟩ := X'.thenCaughtThrough q (g := F0 m pc ls rest) rfl (Steps.refl _) (cell := ce) (by rw [e1]; exact hce) (by rw [hcv]; rfl) (by obtain ⟨k9, h9, -⟩ := Vm.findClass_spec hcl'; exact ⟨k9, h9⟩) pre x suf hsplit
    (fun z hz => by
      obtain ⟨hz0, nm, hl1, a8, b8, n1, n2, n3⟩ := hpass z hz
      obtain ⟨c6, hc6, hcl6⟩ := Cond.classLink_spec hown hl1 e.platform hpl
      cases Option.some.inj (n1.symm.trans hcl')
      cases Option.some.inj (n2.symm.trans hc6)
      exact Or.inr ⟨hz0, _, hcl6, n3⟩) hx (Or.inr ⟨h0, c4, hcl5, hasg⟩)
  have hS1 : va_S A s.heap U'.heap (locs ++ L) := by
    refine ⟨by rw [e1]; exact Nat.le_trans hS.1 hFz.1, fun q9 h1 h2 => ?_, fun z hz => ?_⟩
    · rw [e1, hFz.2 q9 (Nat.lt_of_lt_of_le h1 hS.1) (fun z => h2 (hFc q9 z))]
      exact hS.2.1 q9 h1 h2
    · rcases List.mem_append.mp hz with h | h
      · exact hS.2.2 z h
      · exact hFc _ (hL z h)
  obtain ⟨t3, a3, b3⟩ := kk q U'.heap (locs ++ L) ⟨hK, by rw [e1]; exact hP1, hD1.weaken (fun _ _ _ h => hFc _ h), hS1, hA⟩ (U'.setVm vm') rfl X2
  exact ⟨t3, (st.trans st2).trans a3, b3⟩
/-- a call whose callee is known to return -/
theorem gx_V0i {o : Nat × Int32 × S} (F : fx_ p s m args meth c cc nL ret own Ts) (hZ : xz_ A s) (hW : gw_ D cl tys w A s σ H locs) (hM : gx_Mi l D cl tys w y yws rm (.ref b :: As) σ o) (h0 : o.1 = 0) (cw : CallW R s args own C index y bytes maxL yret yws rm rm.cells rm.slots n) (q0 ci : Nat) {fs : List Value} {T : u_T} {N : Nat} (he : (w σ)[q0]? = some (b, .inr (ci, fs))) (hc : cl[ci]? = some (C, T, N)) (hn : As.length = n) (hsize : ls.size = nL) (hst : st0 = As.reverse ++ .ref b :: rest) (hroom : (rest.map fun v => v.category).sum ≤ 8) (hdg : decode cc pc = .ok (.invokevirtual index, 3)) (hf : cells + rm.cells ≤ R.cells ∧ slots + rm.slots ≤ R.slots) {mc' ms' : Nat} (hmc : cells + rm.cells = mc') (hms : slots + rm.slots = ms')
    (kk : ∀ (H1 : Heap) (locs1 : List Loc), gw_ D cl tys w A s o.2.2 H1 locs1 → W p l e R s m args below meth c H1 locs1 mc' ms' Q (F0 m (pc + 3) ls (.int o.2.1 :: rest))) : W p l e R s m args below meth c H locs cells slots Q (F0 m pc ls st0) := by
  subst hmc; subst hms
  exact gw_runi hW (va_runV (gw_fix F) ((hM H.size).1 h0) cw ⟨gx_blind, va_recv hW.1.1 hW.2.1 hc he, gx_pre hZ hW⟩ rfl hn hsize hst (lv_room hroom) hdg hf) kk
theorem gx_V0z {o : Nat × Int32 × S} (F : fx_ p s m args meth c cc nL ret own Ts) (hZ : xz_ A s) (hW : gw_ D cl tys w A s σ H locs) (hM : gx_Mz l D cl tys w y yws rm (.ref b :: As) σ o) (h0 : o.1 = 0) (cw : CallW R s args own C index y bytes maxL yret yws rm rm.cells rm.slots n) (q0 ci : Nat) {fs : List Value} {T : u_T} {N : Nat} (he : (w σ)[q0]? = some (b, .inr (ci, fs))) (hc : cl[ci]? = some (C, T, N)) (hn : As.length = n) (hsize : ls.size = nL) (hst : st0 = As.reverse ++ .ref b :: rest) (hroom : (rest.map fun v => v.category).sum ≤ 8) (hdg : decode cc pc = .ok (.invokevirtual index, 3)) (hf : cells + rm.cells ≤ R.cells ∧ slots + rm.slots ≤ R.slots) {mc' ms' : Nat} (hmc : cells + rm.cells = mc') (hms : slots + rm.slots = ms')
    (kk : ∀ (H1 : Heap) (locs1 : List Loc), gw_ D cl tys w A s o.2.2 H1 locs1 → W p l e R s m args below meth c H1 locs1 mc' ms' Q (F0 m (pc + 3) ls (.int o.2.1 :: rest))) : W p l e R s m args below meth c H locs cells slots Q (F0 m pc ls st0) := by
  subst hmc; subst hms
  exact gw_runz (o := o.2) hW (va_runV (gw_fix F) ((hM H.size).1 h0) cw ⟨gx_blind, va_recv hW.1.1 hW.2.1 hc he, gx_pre hZ hW⟩ rfl hn hsize hst (lv_room hroom) hdg hf) (fun H1 locs1 _ h => kk H1 locs1 h)
theorem gx_V0l {o : Nat × Int64 × S} (F : fx_ p s m args meth c cc nL ret own Ts) (hZ : xz_ A s) (hW : gw_ D cl tys w A s σ H locs) (hM : gx_Ml l D cl tys w y yws rm (.ref b :: As) σ o) (h0 : o.1 = 0) (cw : CallW R s args own C index y bytes maxL yret yws rm rm.cells rm.slots n) (q0 ci : Nat) {fs : List Value} {T : u_T} {N : Nat} (he : (w σ)[q0]? = some (b, .inr (ci, fs))) (hc : cl[ci]? = some (C, T, N)) (hn : As.length = n) (hsize : ls.size = nL) (hst : st0 = As.reverse ++ .ref b :: rest) (hroom : (rest.map fun v => v.category).sum ≤ 8) (hdg : decode cc pc = .ok (.invokevirtual index, 3)) (hf : cells + rm.cells ≤ R.cells ∧ slots + rm.slots ≤ R.slots) {mc' ms' : Nat} (hmc : cells + rm.cells = mc') (hms : slots + rm.slots = ms')
    (kk : ∀ (H1 : Heap) (locs1 : List Loc), gw_ D cl tys w A s o.2.2 H1 locs1 → W p l e R s m args below meth c H1 locs1 mc' ms' Q (F0 m (pc + 3) ls (.long o.2.1 :: rest))) : W p l e R s m args below meth c H locs cells slots Q (F0 m pc ls st0) := by
  subst hmc; subst hms
  exact gw_runl (o := o.2) hW (va_runV (gw_fix F) ((hM H.size).1 h0) cw ⟨gx_blind, va_recv hW.1.1 hW.2.1 hc he, gx_pre hZ hW⟩ rfl hn hsize hst (lv_room hroom) hdg hf) kk
theorem gx_V0v {o : Nat × S} (F : fx_ p s m args meth c cc nL ret own Ts) (hZ : xz_ A s) (hW : gw_ D cl tys w A s σ H locs) (hM : gx_Mv l D cl tys w y yws rm (.ref b :: As) σ o) (h0 : o.1 = 0) (cw : CallW R s args own C index y bytes maxL yret yws rm rm.cells rm.slots n) (q0 ci : Nat) {fs : List Value} {T : u_T} {N : Nat} (he : (w σ)[q0]? = some (b, .inr (ci, fs))) (hc : cl[ci]? = some (C, T, N)) (hn : As.length = n) (hsize : ls.size = nL) (hst : st0 = As.reverse ++ .ref b :: rest) (hroom : (rest.map fun v => v.category).sum ≤ 8) (hdg : decode cc pc = .ok (.invokevirtual index, 3)) (hf : cells + rm.cells ≤ R.cells ∧ slots + rm.slots ≤ R.slots) {mc' ms' : Nat} (hmc : cells + rm.cells = mc') (hms : slots + rm.slots = ms')
    (kk : ∀ (H1 : Heap) (locs1 : List Loc), gw_ D cl tys w A s o.2 H1 locs1 → W p l e R s m args below meth c H1 locs1 mc' ms' Q (F0 m (pc + 3) ls rest)) : W p l e R s m args below meth c H locs cells slots Q (F0 m pc ls st0) := by
  subst hmc; subst hms
  exact gw_runv hW (va_runV (gw_fix F) ((hM H.size).1 h0) cw ⟨gx_blind, va_recv hW.1.1 hW.2.1 hc he, gx_pre hZ hW⟩ rfl hn hsize hst (lv_room hroom) hdg hf) kk
/-- the law's helpers -/
def gh_P (D : va_G) (cl : List vw_C) (tys : List (ClassId × FieldType)) (w : S → va_W) (sz : Nat) (σ : S) (U : State) : Prop := gx_P D cl tys w sz σ U ∧ xn_ U
def gh_M (l : Launch) (D : va_G) (cl : List vw_C) (tys : List (ClassId × FieldType)) (w : S → va_W) (y : MethodName) (ws : List Cond) (rm : Room) (av : List Value) (σ : S) (o : Int32 × S) : Prop :=
  ∀ sz : Nat, Met l y ws rm (va_Pc av (gh_P D cl tys w sz σ)) (gw_Qi D cl tys w (va_A (w σ) sz) o) rm.cells rm.slots (va_A (w σ) sz)
theorem gh_blind {av : List Value} {sz : Nat} : FrameBlind (va_Pc av (gh_P D cl tys w sz σ)) := by
  intro a U g mk q
  obtain ⟨q0, q1, qN⟩ := q
  have h := gx_blind (av := av) a U g mk ⟨q0, q1⟩
  exact ⟨h.1, h.2, xn_moved (U := U.calling g mk a) (Vm.Alike.refl U.vm) qN⟩
theorem gh_body {av : List Value} {ws' : List Cond} {o : Int32 × S} {hh : List (Nat × Nat × Nat × Nat)} (hy : plainName y.cls = true) (hw : yws = Cond.codeWith y cc maxL (some .int) hh :: ws')
    (body : ∀ p e s m below meth c A, fx_ p s m av.toArray meth c cc maxL (some .int) y.cls yws → c.exceptionTable.toList = tableOf hh → xz_ A s → xn_ s → gw_ D cl tys w A s σ s.heap [] →
      ∀ ls : Array Slot, lv_has ls maxL (lv_args 0 av) → W p l e rm s m av.toArray below meth c s.heap [] 0 0 (MQ below (gw_Qi D cl tys w A o) av.toArray s rm.cells rm.slots A) (F0 m 0 ls [])) (hlen : (lg_sl av).length ≤ maxL) : gh_M l D cl tys w y yws rm av σ o := by
  intro sz
  refine va_MetW (cc := cc) (maxL := maxL) (ret := some .int) hy hw ?_
  intro p e s m args below meth c s₁ B hml hv
  obtain ⟨h1, ⟨hv, hZ⟩, hN⟩ := hv
  have hsz : s.heap.size = sz := hv.1
  subst hsz
  obtain ⟨rfl, hW⟩ := gw_start (av := av) ⟨h1, hv⟩
  have hl := lv_entry av (n := maxL) hlen
  rw [lg_entry_eq]
  exact body p e s m below meth c _ ⟨B.exec, B.bytes, B.returns, hml, findClass_of_methodNamed B.named, atoms_spec (ws := yws) B.pre, B.notSynchronized⟩ (gh_table hw B) hZ hN hW _ hl
/-- invokestatic of a method with a table of handlers -/
theorem gh_S {o : Int32 × S} {hh : List (Nat × Nat × Nat × Nat)} {ws' : List Cond} (F : fx_ p s m args meth c cc nL ret own Ts) (hZ : xz_ A s) (hN : xn_ s) (hW : gw_ D cl tys w A s σ H locs) (hM : gh_M l D cl tys w y yws rm As σ o) (hG : GoodIn Ts yws) (hw : yws = Cond.codeWith y bytes maxL yret hh :: ws') (hlink : (Cond.methodLink own index y).before args s = true) (hstat : (Cond.static y).before args s = true) (hini : (Cond.initialized y.cls).before args s = true) (hy : y.cls ≠ "java/lang/invoke/MethodHandle" ∧ y.cls ≠ "java/lang/invoke/VarHandle" ∧ (parseMethodDescriptor y.desc).map (fun d => d.parameters.length) = some n) (hR : rm.frames + 1 ≤ R.frames ∧ 8 + (maxL + 11) + rm.locals ≤ R.locals) (hn : As.length = n) (hsize : ls.size = nL) (hst : st0 = As.reverse ++ rest) (hroom : (rest.map fun v => v.category).sum ≤ 8) (hdg : decode cc pc = .ok (.invokestatic index, 3)) (hf : cells + rm.cells ≤ R.cells ∧ slots + rm.slots ≤ R.slots) {mc' ms' : Nat} (hmc : cells + rm.cells = mc') (hms : slots + rm.slots = ms')
    (kk : ∀ (H1 : Heap) (locs1 : List Loc), gw_ D cl tys w A s o.2 H1 locs1 → W p l e R s m args below meth c H1 locs1 mc' ms' Q (F0 m (pc + 3) ls (.int o.1 :: rest))) : W p l e R s m args below meth c H locs cells slots Q (F0 m pc ls st0) := by
  subst hmc; subst hms
  refine gw_runi (a := As.toArray) hW ?_ kk
  obtain ⟨hexec, hb, -, hml, hown, hts, -⟩ := F
  have hcw : Cond.codeWith y bytes maxL yret hh ∈ yws := by rw [hw]; exact List.mem_cons_self
  have hB : Back l R p e below s args y 3 8 (PreOf R rm.cells rm.slots (va_Pc As (gh_P D cl tys w H.size σ))) (PostOf (gw_Qi D cl tys w (va_A (w σ) H.size) o) rm.cells rm.slots (va_A (w σ) H.size)) :=
    va_backW (hh := hh) (bytes := bytes) (maxL := maxL) (ret := yret) (hM H.size) gh_blind rfl rfl hR.1 hR.2 (pay_in hts hG) hcw (fun a' U hW => word_at hW (Or.inl (by first | rfl | simp [Cond.onTables, Cond.keeps, Cond.steady])) hini)
  intro T hT X
  obtain ⟨mk, meY, cY, hnm, hmY, -, -, -, -, -, -, hsig⟩ := Cond.codeWith_spec (hts _ (hG _ hcw).1)
  have hstc : meY.isStatic = true := Cond.static_spec hnm hmY hstat
  obtain ⟨kP, hkP, -⟩ := className_of_methodNamed hnm
  have hinP : kP.init = .initialized := Cond.initialized_spec (findClass_of_methodNamed hnm) hkP hini
  have hlen : As.length = meY.sig.parameters.length := by
    have h2 := hy.2.2
    rw [hsig] at h2
    exact hn.trans (Option.some.inj h2).symm
  obtain ⟨vm₁, X₁, hs1⟩ := X.invokestatic hexec hown hlink hnm hmY hstc hkP hinP ⟨hy.1, hy.2.1⟩ (g := F0 m pc ls st0) rfl (argsL := As) (rest := rest) hlen hst (by rw [hb]; exact hdg)
  have hpre : va_Pc As (gh_P D cl tys w H.size σ) As.toArray (T.setVm vm₁) := by
    have h9 := gx_pre (av := As) hZ hW (T.setVm vm₁) hT X₁.warmed
    exact ⟨h9.1, h9.2, xn_moved X₁.warmed.alike hN⟩
  obtain ⟨v, ⟨U', l2, c2, s2⟩, X', ⟨g', mk', t, L, e1, e2, hq, h1, hL, h2, h3⟩, st⟩ := hB m meth c ⟨T.setVm vm₁, locs, cells, slots⟩ { (F0 m pc ls st0) with stack := rest } (.invokestatic index) mk As.toArray X₁ rfl (hsize.trans hml.symm) (by rw [hb]; exact hdg) (lv_room hroom) (X₁.named hnm) ⟨hf.1, hf.2, hpre⟩
  dsimp only [Pt.U, Pt.locs, Pt.cells, Pt.slots] at X' e1 e2 h1 h2 h3 st
  subst h1; subst h2; subst h3
  exact ⟨v, (T.setVm vm₁).calling g' mk' As.toArray, t, U', L, hT, X', hL, e1, e2, hq, fun target h => hs1 _ fun acts => by rw [doInvoke_state]; exact st.trans h⟩
end GH

