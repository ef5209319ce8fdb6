-- MY KIT: contracts of methods that return or throw, as the pure function says
section GX
variable {p : Program} {l : Launch} {e : Env} {R : Room} {s : State} {m : MethodId} {args : Array Value} {below : List Frame} {meth : Method} {c : Code} {H : Heap} {locs : List Loc} {cells slots : Nat} {Q : State → Prop}
variable {S : Type} {D : va_G} {cl : List vw_C} {tys : List (ClassId × FieldType)} {w : S → va_W} {A : Nat → Prop} {σ : S}
variable {cc : ByteArray} {nL pc : Nat} {ret : Option FieldType} {own : String} {Ts : List Cond} {ls : Array Slot} {rest st0 : List Value}
/-- which of two ends, by the code k -/
def gx_Q (k : Nat) (M T : State → Prop) : State → Prop := fun t => (k = 0 → M t) ∧ (k ≠ 0 → T t)
/-- the exception of class E is there, and the world -/
def tx_ (E : String) (B : State → Prop) (A : Nat → Prop) (st : State) (q : Addr) (t : State) : Prop := (∃ ce : Cell, t.heap[q]? = some ce ∧ ce.vm = .none ∧ st.vm.findClass E = some ce.cls) ∧ B t ∧ va_F A st t
def gx_T (below : List Frame) (D : va_G) (cl : List vw_C) (tys : List (ClassId × FieldType)) (w : S → va_W) (A : Nat → Prop) (k : Nat) (u : S) (s : State) (mc ms : Nat) : State → Prop := TQ below (tx_ (exN k) (gw_B D cl tys w A u) A) s mc ms A
def gx_P (D : va_G) (cl : List vw_C) (tys : List (ClassId × FieldType)) (w : S → va_W) (sz : Nat) (σ : S) (U : State) : Prop := gw_P D cl tys w sz σ U ∧ xz_ (va_A (w σ) sz) U
/-- the contract: Qc where k is 0, else a throw of exN k with the world of u -/
def gx_M (l : Launch) (D : va_G) (cl : List vw_C) (tys : List (ClassId × FieldType)) (w : S → va_W) (y : MethodName) (ws : List Cond) (rm : Room) (av : List Value) (σ : S) (k : Nat) (u : S) (Qc : (Nat → Prop) → Array Value → State → Outcome → State → Prop) : Prop :=
  ∀ sz : Nat, (k = 0 → Met l y ws rm (va_Pc av (gx_P D cl tys w sz σ)) (Qc (va_A (w σ) sz)) rm.cells rm.slots (va_A (w σ) sz)) ∧
    (k ≠ 0 → tw_Met l y ws rm (va_Pc av (gx_P D cl tys w sz σ)) (tx_ (exN k) (gw_B D cl tys w (va_A (w σ) sz) u) (va_A (w σ) sz)) rm.cells rm.slots (va_A (w σ) sz))
def gx_Mi (l : Launch) (D : va_G) (cl : List vw_C) (tys : List (ClassId × FieldType)) (w : S → va_W) (y : MethodName) (ws : List Cond) (rm : Room) (av : List Value) (σ : S) (o : Nat × Int32 × S) : Prop := gx_M l D cl tys w y ws rm av σ o.1 o.2.2 (fun A => gw_Qi D cl tys w A o.2)
def gx_Mz (l : Launch) (D : va_G) (cl : List vw_C) (tys : List (ClassId × FieldType)) (w : S → va_W) (y : MethodName) (ws : List Cond) (rm : Room) (av : List Value) (σ : S) (o : Nat × Int32 × S) : Prop := gx_M l D cl tys w y ws rm av σ o.1 o.2.2 (fun A => va_Qi (fun r u => (r = o.2.1 ∧ u = o.2.2) ∧ (o.2.1 = 0 ∨ o.2.1 = 1)) (gw_B D cl tys w A) A)
def gx_Ml (l : Launch) (D : va_G) (cl : List vw_C) (tys : List (ClassId × FieldType)) (w : S → va_W) (y : MethodName) (ws : List Cond) (rm : Room) (av : List Value) (σ : S) (o : Nat × Int64 × S) : Prop := gx_M l D cl tys w y ws rm av σ o.1 o.2.2 (fun A => gw_Ql D cl tys w A o.2)
def gx_Mv (l : Launch) (D : va_G) (cl : List vw_C) (tys : List (ClassId × FieldType)) (w : S → va_W) (y : MethodName) (ws : List Cond) (rm : Room) (av : List Value) (σ : S) (o : Nat × S) : Prop := gx_M l D cl tys w y ws rm av σ o.1 o.2 (fun A => gw_Qv D cl tys w A o.2)
theorem gx_blind {av : List Value} {sz : Nat} : FrameBlind (va_Pc av (gx_P D cl tys w sz σ)) := by
  intro a U g mk q
  obtain ⟨q0, q1, qZ⟩ := q
  have h := gw_blind (av := av) a U g mk ⟨q0, q1⟩
  exact ⟨h.1, h.2, xz_call qZ⟩
theorem gx_pre {av : List Value} (hZ : xz_ A s) (hW : gw_ D cl tys w A s σ H locs) : ∀ U : State, U.heap = H → s.WarmedH U.vm → va_Pc av (gx_P D cl tys w H.size σ) av.toArray U := by
  intro U hU hWm
  have h0 := gw_pre (av := av) hW U hU hWm
  obtain ⟨hK, hP, hD, hS, hA⟩ := hW
  subst hU
  exact ⟨rfl, h0.2, xz_go hZ hWm hS (gw_free (w := w) (σ := σ) hD (fun q h => hA q (Nat.le_trans hS.1 h)))⟩
theorem gx_ret0 {k : Nat} {M T : State → Prop} {g : JFrame} (hk : k = 0) (h : W p l e R s m args below meth c H locs cells slots M g) : W p l e R s m args below meth c H locs cells slots (gx_Q k M T) g := W_mono h (fun _ h => ⟨fun _ => h, fun h1 => absurd hk h1⟩)
theorem gx_ret1 {k : Nat} {M T : State → Prop} {g : JFrame} (hk : k ≠ 0) (h : W p l e R s m args below meth c H locs cells slots T g) : W p l e R s m args below meth c H locs cells slots (gx_Q k M T) g := W_mono h (fun _ h => ⟨fun h1 => absurd h1 hk, fun _ => h⟩)
variable {y : MethodName} {bytes : ByteArray} {maxL n index : Nat} {yret : Option FieldType} {yws : List Cond} {rm : Room} {b : Nat} {As : List Value} {C : String}
/-- the callee throws, nobody here catches it -/
theorem gx_pass {k : Nat} {u : S} {mc ms : Nat} (F : fx_ p s m args meth c cc nL ret own Ts) (hT : ∀ x ∈ c.exceptionTable.toList, False) (hZ : xz_ A s) (hW : gw_ D cl tys w A s σ H locs)
    (hM : tw_Met l y yws rm (va_Pc (.ref b :: As) (gx_P D cl tys w H.size σ)) (tx_ (exN k) (gw_B D cl tys w (va_A (w σ) H.size) u) (va_A (w σ) H.size)) rm.cells rm.slots (va_A (w σ) H.size)) (cw : CallW R s args own C index y bytes maxL yret yws rm rm.cells rm.slots n) (q0 ci : Nat) {fs : List Value} {T : u_T} {N : Nat} (he : (w σ)[q0]? = some (b, .inr (ci, fs))) (hc : cl[ci]? = some (C, T, N)) (hn : As.length = n) (hsize : ls.size = nL) (hst : st0 = As.reverse ++ .ref b :: rest) (hroom : (rest.map fun v => v.category).sum ≤ 8) (hdg : decode cc pc = .ok (.invokevirtual index, 3)) (hf : cells + rm.cells ≤ R.cells ∧ slots + rm.slots ≤ R.slots) (hmx : cells + rm.cells ≤ mc) (hmy : slots + rm.slots ≤ ms) :
    W p l e R s m args below meth c H locs cells slots (gx_T below D cl tys w A k u s mc ms) (F0 m pc ls st0) := by
  obtain ⟨⟨hrc, hrs, hfr, hlo, hws, hcw, hcode, hini, hy, hlen, hl⟩, hin, hse⟩ := cw
  obtain ⟨hexec, hb, -, hml, hown, -, hlocks⟩ := F
  have hW0 := hW
  obtain ⟨hK, hP, hD, hS, hA⟩ := hW
  have hFc := gw_free (w := w) (σ := σ) hD (sz := H.size) (fun q h => hA q (Nat.le_trans hS.1 h))
  obtain ⟨cellB, hcB, hoB, hclB⟩ := va_recv hK.1 hP hc he
  have hBk : BackT l R p e below s args y 3 8 (PreOf R rm.cells rm.slots (va_Pc (.ref b :: As) (gx_P D cl tys w H.size σ))) (tw_Post (tx_ (exN k) (gw_B D cl tys w (va_A (w σ) H.size) u) (va_A (w σ) H.size)) rm.cells rm.slots (va_A (w σ) H.size)) :=
    tw_back (bytes := bytes) (maxL := maxL) (ret := yret) hM gx_blind rfl rfl hfr hlo hws hcw (fun a' U hW => word_at hW (Or.inl (by first | rfl | simp [Cond.onTables, Cond.keeps, Cond.steady])) hini)
  intro T0 hT0 X
  obtain ⟨q, vm₁, ⟨U', l2, c2, s2⟩, hW1, X', ⟨g', mk, t, L, e1, e2, hx, h1, hL, h2, h3⟩, st⟩ := tw_callV X hexec hown hl hin hse hcode hy hBk (by rw [hT0]; exact hcB) hoB hclB (g := F0 m pc ls st0) rfl (hsize.trans hml.symm) (As := As) (rest := rest) (fun sig h => hn.trans (hlen sig h)) hst (lv_room hroom) (by rw [hb]; exact hdg) (fun vm₁ hW₁ => ⟨hf.1, hf.2, gx_pre hZ hW0 (T0.setVm vm₁) hT0 hW₁⟩)
  dsimp only [Pt.U, Pt.locs, Pt.cells, Pt.slots] at X' e1 e2 h1 h2 h3 st
  subst h1; subst h2; subst h3
  obtain ⟨⟨ce, hce, hcv, hcl⟩, ⟨hP1, hK1, hD1⟩, hF⟩ := hx
  obtain ⟨st1, hrun, hend, hWe, hsm⟩ := X'.leaveThrown q (g := F0 m pc ls rest) rfl rfl rfl (fun x hx => (hT x hx).elim) hlocks
  have hcl' : s.vm.findClass (exN k) = some ce.cls := by
    have h9 : vm₁.findClass (exN k) = some ce.cls := hcl
    rw [hW1.alike.findClass] at h9
    exact h9
  have hFz : H.size ≤ t.heap.size ∧ ∀ q : Nat, q < H.size → ¬ va_A (w σ) H.size q → t.heap[q]? = H[q]? := by
    obtain ⟨z1, z2⟩ := hF
    have hh : ((T0.setVm vm₁).calling g' mk (Value.ref b :: As).toArray).heap = H := hT0
    rw [hh] at z1 z2
    exact ⟨z1, z2⟩
  refine ⟨U'.setFrames (.throwing q :: below), st.trans st1, q, hrun, hend, ⟨⟨ce, by rw [← e1] at hce; exact hce, hcv, hcl'⟩, ⟨?_, ?_, hD1.weaken (fun _ _ _ h => hFc _ h)⟩, ?_⟩, locs ++ L, ⟨⟨q, rfl⟩, hWe, hsm.mono hmx hmy⟩, ?_⟩
  · have : va_P D cl (w u) U'.heap := by rw [e1]; exact hP1
    exact this
  · exact va_K.moved hWe.alike hK.1
  · refine ⟨?_, fun q9 h1 h2 => ?_⟩
    · have : s.heap.size ≤ U'.heap.size := by rw [e1]; exact Nat.le_trans hS.1 hFz.1
      exact this
    · have h3 : U'.heap[q9]? = s.heap[q9]? := by
        rw [e1, hFz.2 q9 (Nat.lt_of_lt_of_le h1 hS.1) (fun z => h2 (hFc q9 z))]
        exact hS.2.1 q9 h1 h2
      exact h3
  · intro z hz
    rcases List.mem_append.mp hz with h | h
    · exact hS.2.2 z h
    · exact hFc _ (hL z h)
theorem gx_Vi {o : Nat × Int32 × S} {k' : Nat} {u' : S} {mc ms : Nat} {M : State → Prop} (F : fx_ p s m args meth c cc nL ret own Ts) (hT : ∀ x ∈ c.exceptionTable.toList, False) (hZ : xz_ A s) (hW : gw_ D cl tys w A s σ H locs) (hM : gx_Mi l D cl tys w y yws rm (.ref b :: As) σ o) (cw : CallW R s args own C index y bytes maxL yret yws rm rm.cells rm.slots n) (q0 ci : Nat) {fs : List Value} {T : u_T} {N : Nat} (he : (w σ)[q0]? = some (b, .inr (ci, fs))) (hc : cl[ci]? = some (C, T, N)) (hn : As.length = n) (hsize : ls.size = nL) (hst : st0 = As.reverse ++ .ref b :: rest) (hroom : (rest.map fun v => v.category).sum ≤ 8) (hdg : decode cc pc = .ok (.invokevirtual index, 3)) (hf : cells + rm.cells ≤ R.cells ∧ slots + rm.slots ≤ R.slots) {mc' ms' : Nat} (hmc : cells + rm.cells = mc') (hms : slots + rm.slots = ms') (hmx : mc' ≤ mc) (hmy : ms' ≤ ms) (hx : ¬ o.1 = 0 → k' = o.1 ∧ u' = o.2.2)
    (kk : o.1 = 0 → ∀ (H1 : Heap) (locs1 : List Loc), gw_ D cl tys w A s o.2.2 H1 locs1 → W p l e R s m args below meth c H1 locs1 mc' ms' (gx_Q k' M (gx_T below D cl tys w A k' u' s mc ms)) (F0 m (pc + 3) ls (.int o.2.1 :: rest))) : W p l e R s m args below meth c H locs cells slots (gx_Q k' M (gx_T below D cl tys w A k' u' s mc ms)) (F0 m pc ls st0) := by
  subst hmc; subst hms
  rcases Decidable.em (o.1 = 0) with h0 | h0
  · exact gw_runi hW (va_runV (gw_fix F) ((hM H.size).1 h0) cw ⟨gx_blind, va_recv hW.1.1 hW.2.1 hc he, gx_pre hZ hW⟩ rfl hn hsize hst (lv_room hroom) hdg hf) (kk h0)
  · obtain ⟨rfl, rfl⟩ := hx h0
    exact gx_ret1 h0 (gx_pass F hT hZ hW ((hM H.size).2 h0) cw q0 ci he hc hn hsize hst hroom hdg hf hmx hmy)
theorem gx_Vv {o : Nat × S} {k' : Nat} {u' : S} {mc ms : Nat} {M : State → Prop} (F : fx_ p s m args meth c cc nL ret own Ts) (hT : ∀ x ∈ c.exceptionTable.toList, False) (hZ : xz_ A s) (hW : gw_ D cl tys w A s σ H locs) (hM : gx_Mv l D cl tys w y yws rm (.ref b :: As) σ o) (cw : CallW R s args own C index y bytes maxL yret yws rm rm.cells rm.slots n) (q0 ci : Nat) {fs : List Value} {T : u_T} {N : Nat} (he : (w σ)[q0]? = some (b, .inr (ci, fs))) (hc : cl[ci]? = some (C, T, N)) (hn : As.length = n) (hsize : ls.size = nL) (hst : st0 = As.reverse ++ .ref b :: rest) (hroom : (rest.map fun v => v.category).sum ≤ 8) (hdg : decode cc pc = .ok (.invokevirtual index, 3)) (hf : cells + rm.cells ≤ R.cells ∧ slots + rm.slots ≤ R.slots) {mc' ms' : Nat} (hmc : cells + rm.cells = mc') (hms : slots + rm.slots = ms') (hmx : mc' ≤ mc) (hmy : ms' ≤ ms) (hx : ¬ o.1 = 0 → k' = o.1 ∧ u' = o.2)
    (kk : o.1 = 0 → ∀ (H1 : Heap) (locs1 : List Loc), gw_ D cl tys w A s o.2 H1 locs1 → W p l e R s m args below meth c H1 locs1 mc' ms' (gx_Q k' M (gx_T below D cl tys w A k' u' s mc ms)) (F0 m (pc + 3) ls rest)) : W p l e R s m args below meth c H locs cells slots (gx_Q k' M (gx_T below D cl tys w A k' u' s mc ms)) (F0 m pc ls st0) := by
  subst hmc; subst hms
  rcases Decidable.em (o.1 = 0) with h0 | h0
  · exact gw_runv hW (va_runV (gw_fix F) ((hM H.size).1 h0) cw ⟨gx_blind, va_recv hW.1.1 hW.2.1 hc he, gx_pre hZ hW⟩ rfl hn hsize hst (lv_room hroom) hdg hf) (kk h0)
  · obtain ⟨rfl, rfl⟩ := hx h0
    exact gx_ret1 h0 (gx_pass F hT hZ hW ((hM H.size).2 h0) cw q0 ci he hc hn hsize hst hroom hdg hf hmx hmy)
/-- throw new exN k -/
theorem gx_throw {text : String} {ik is ic len mc ms k : Nat} {u' : S} {li : Instr} {M : State → Prop} (F : fx_ p s m args meth c cc nL ret "InodeDesk" Ts) (hl9 : l.stackTraces = false) (hT : ∀ x ∈ c.exceptionTable.toList, False) (hZ : xz_ A s) (hG : ∀ x ∈ gT, x.before args s = true) (hW : gw_ D cl tys w A s σ H locs) (hk0 : k ≠ 0) (hu : u' = σ)
    (hcls : Bundle.fit (exN k) = true) (hk : Cond.classLink "InodeDesk" ik (exN k) ∈ gT) (hini : Cond.initialized (exN k) ∈ gT) (hins : Cond.instantiable (exN k) 6 ∈ gT) (hstr : (is, text) ∈ xstr)
    (how : ∀ (args : Array Value) (s : State), (∀ x ∈ gT, x.before args s = true) → xb_ s → (∀ x ∈ xst, (Cond.isRef (.static "java/lang/Throwable" x.1 x.2)).before args s = true ∧ (Cond.laysStatic "java/lang/Throwable" x.1 x.2).before args s = true) → ∀ w ∈ Bundle.ownAtoms "InodeDesk" ic (exN k) ["java/lang/RuntimeException", "java/lang/Exception"], w.before args s = true)
    (hsize : ls.size = nL) (d0 : decode cc pc = .ok (.new ik, 3)) (d3 : decode cc (pc + 3) = .ok (.dup, 1)) (d4 : (li = .ldc is ∧ len = 2) ∨ (li = .ldc_w is ∧ len = 3)) (d4' : decode cc (pc + 4) = .ok (li, len)) (d6 : decode cc (pc + 4 + len) = .ok (.invokespecial ic, 3)) (d9 : decode cc (pc + 4 + len + 3) = .ok (.athrow, 1))
    (hRf : 2 + 3 < R.frames) (hRl : (rest.map fun v => v.category).sum + (13 * 3 + 43) ≤ R.locals) (hRc : cells + 1 ≤ R.cells) (hRs : slots + 6 ≤ R.slots) (hc : cells + 1 ≤ mc) (hs : slots + 6 ≤ ms) :
    W p l e R s m args below meth c H locs cells slots (gx_Q k M (gx_T below D cl tys w A k u' s mc ms)) (F0 m pc ls rest) := by
  obtain ⟨hK, hP, hD, hS, hA⟩ := hW
  obtain ⟨sa, hsa⟩ := hZ.2 _ hstr
  subst hu
  refine gx_ret1 hk0 (tw_throw F hl9 hcls (by decide +kernel) hk hini hins hG hK.2 hsa hZ hS how hsize d0 d3 d4 d4' d6 d9 hT hRf hRl hRc hRs ?_ hS.2.2 hc hs)
  intro q ce t h1 h2 h3 ha hz hk
  exact ⟨⟨ce, h1, h2, h3⟩, ⟨hP.kept (fun k q hq => hk q.1 (hP k q hq).lt), va_K.moved ha hK.1, hD⟩, Nat.le_trans hS.1 hz, fun q h1 h2 => (hk q (Nat.lt_of_lt_of_le h1 hS.1)).trans (hS.2.1 q h1 h2)⟩
theorem gx_body {av : List Value} {ws' : List Cond} {k : Nat} {u : S} {Qc : (Nat → Prop) → Array Value → State → Outcome → State → Prop} (hy : plainName y.cls = true) (hw : yws = Cond.code y cc maxL yret :: ws')
    (body : ∀ p e s m below meth c A, fx_ p s m av.toArray meth c cc maxL yret y.cls yws → (∀ x ∈ c.exceptionTable.toList, False) → xz_ A s → gw_ D cl tys w A s σ s.heap [] →
      ∀ ls : Array Slot, lv_has ls maxL (lv_args 0 av) → W p l e rm s m av.toArray below meth c s.heap [] 0 0 (gx_Q k (MQ below (Qc A) av.toArray s rm.cells rm.slots A) (gx_T below D cl tys w A k u s rm.cells rm.slots)) (F0 m 0 ls [])) (hlen : (lg_sl av).length ≤ maxL) : gx_M l D cl tys w y yws rm av σ k u Qc := by
  have key : ∀ (sz : Nat) p e s m args below meth c s₁, BodyLoose p l y (headSpec yws rm) cc maxL yret e s m args below meth c s₁ → c.maxLocals = maxL → va_Pc av (gx_P D cl tys w sz σ) args s → W p l e rm s m args below meth c s.heap [] 0 0 (gx_Q k (MQ below (Qc (va_A (w σ) sz)) args s rm.cells rm.slots (va_A (w σ) sz)) (gx_T below D cl tys w (va_A (w σ) sz) k u s rm.cells rm.slots)) (entryFrame m args maxL) := by
    intro sz p e s m args below meth c s₁ B hml hv
    obtain ⟨h1, hv, hZ⟩ := hv
    have hsz : s.heap.size = sz := hv.1
    subst hsz
    obtain ⟨rfl, hW⟩ := gw_start (av := av) ⟨h1, hv⟩
    have hl := lv_entry av (n := maxL) hlen
    rw [lg_entry_eq]
    exact body p e s m below meth c _ ⟨B.exec, B.bytes, B.returns, hml, findClass_of_methodNamed B.named, atoms_spec (ws := yws) B.pre, B.notSynchronized⟩ (tw_noTable hw B) hZ hW _ hl
  intro sz
  refine ⟨fun h0 => ?_, fun h1 => ?_⟩
  · refine Met.ofW (cc := cc) (maxL := maxL) (ret := yret) hy hw ?_
    intro p e s m args below meth c s₁ B hml hv
    exact W_mono (key sz p e s m args below meth c s₁ B hml hv) (fun t ht => ht.1 h0)
  · refine tw_ofW (cc := cc) (maxL := maxL) (ret := yret) hy hw ?_
    intro p e s m args below meth c s₁ B hml hv
    exact W_mono (key sz p e s m args below meth c s₁ B hml hv) (fun t ht => ht.2 h1)
end GX

