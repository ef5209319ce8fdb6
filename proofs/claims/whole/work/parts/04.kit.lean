def xbad : List Cond := [.declares ⟨"InodeDesk$Source", "valueAt", "(I)I"⟩, .methodLinkNest RX0 84 yX8_init "InodeDesk", .methodLinkNest RX8 3 yX9_init "InodeDesk", .methodLinkNest RX11 1 yX9_init "InodeDesk", .castable "java/lang/IllegalStateException" "java/lang/IllegalStateException", .castable "java/lang/IndexOutOfBoundsException" "java/lang/IndexOutOfBoundsException", .castable "java/lang/IllegalArgumentException" "java/lang/IllegalArgumentException", .castable "java/lang/UnsupportedOperationException" "java/lang/UnsupportedOperationException", .declares ⟨"java/lang/RuntimeException", "<init>", "(Ljava/lang/String;)V"⟩, .declares ⟨"java/lang/Exception", "<init>", "(Ljava/lang/String;)V"⟩, .declares ⟨"java/lang/Throwable", "<init>", "(Ljava/lang/String;)V"⟩]
theorem xb_0 : (.declares ⟨"InodeDesk$Source", "valueAt", "(I)I"⟩ : Cond) ∈ xbad := List.mem_of_getElem? (i := 0) rfl
theorem xb_1 : (.methodLinkNest RX0 84 yX8_init "InodeDesk" : Cond) ∈ xbad := List.mem_of_getElem? (i := 1) rfl
theorem xb_2 : (.methodLinkNest RX8 3 yX9_init "InodeDesk" : Cond) ∈ xbad := List.mem_of_getElem? (i := 2) rfl
theorem xb_3 : (.methodLinkNest RX11 1 yX9_init "InodeDesk" : Cond) ∈ xbad := List.mem_of_getElem? (i := 3) rfl
theorem xb_4 : (.castable "java/lang/IllegalStateException" "java/lang/IllegalStateException" : Cond) ∈ xbad := List.mem_of_getElem? (i := 4) rfl
theorem xb_5 : (.castable "java/lang/IndexOutOfBoundsException" "java/lang/IndexOutOfBoundsException" : Cond) ∈ xbad := List.mem_of_getElem? (i := 5) rfl
theorem xb_6 : (.castable "java/lang/IllegalArgumentException" "java/lang/IllegalArgumentException" : Cond) ∈ xbad := List.mem_of_getElem? (i := 6) rfl
theorem xb_7 : (.castable "java/lang/UnsupportedOperationException" "java/lang/UnsupportedOperationException" : Cond) ∈ xbad := List.mem_of_getElem? (i := 7) rfl
theorem xb_8 : (.declares ⟨"java/lang/RuntimeException", "<init>", "(Ljava/lang/String;)V"⟩ : Cond) ∈ xbad := List.mem_of_getElem? (i := 8) rfl
theorem xb_9 : (.declares ⟨"java/lang/Exception", "<init>", "(Ljava/lang/String;)V"⟩ : Cond) ∈ xbad := List.mem_of_getElem? (i := 9) rfl
theorem xb_10 : (.declares ⟨"java/lang/Throwable", "<init>", "(Ljava/lang/String;)V"⟩ : Cond) ∈ xbad := List.mem_of_getElem? (i := 10) rfl
def xb_ (U : State) : Prop := ∀ w ∈ xbad, va_Nw w U
theorem xb_call {U : State} {g : JFrame} {mk : MethodId} {a : Array Value} (h : xb_ U) : xb_ (U.calling g mk a) := fun w hw => va_Nw.same (u := U) (U := U.calling g mk a) ((by decide +kernel : ∀ w ∈ xbad, w.onTables = true) w hw) rfl (h w hw)
theorem xb_warm {s U : State} (hW : s.WarmedH U.vm) (h : xb_ s) : xb_ U := by
  intro w hw
  have h1 := h w hw
  simp only [xbad, List.mem_cons, List.not_mem_nil, or_false] at hw
  rcases hw with rfl | rfl | rfl | rfl | rfl | rfl | rfl | rfl | rfl | rfl | rfl
  · exact va_Nw.warmD hW h1
  · exact va_Nw.warmM hW h1
  · exact va_Nw.warmM hW h1
  · exact va_Nw.warmM hW h1
  · exact va_Nw.warmC hW h1
  · exact va_Nw.warmC hW h1
  · exact va_Nw.warmC hW h1
  · exact va_Nw.warmC hW h1
  · exact va_Nw.warmD hW h1
  · exact va_Nw.warmD hW h1
  · exact va_Nw.warmD hW h1
-- MY KIT: a world as a function of a state; one row a step, one row a call, the whole world handed on at every call
/-- a step of a loop is a body over 'what comes next'; fuel n -/
def lfix {α β : Type} (b : (α → Option β) → α → Option β) : Nat → α → Option β
  | 0, _ => none
  | n + 1, t => b (lfix b n) t
def FU : Nat := 1099511627776
theorem lfix_ind {α β : Type} {b : (α → Option β) → α → Option β} {P : α → β → Prop} (h : ∀ k : α → Option β, (∀ t o, k t = some o → P t o) → ∀ t o, b k t = some o → P t o) : ∀ (n : Nat) (t : α) (o : β), lfix b n t = some o → P t o := by
  intro n
  induction n with
  | zero => intro t o ho; cases ho
  | succ n ih => intro t o ho; exact h (lfix b n) ih t o ho
theorem gw_bind {α β : Type} {x : Option α} {f : α → Option β} {o : β} (h : x.bind f = some o) : ∃ z, x = some z ∧ f z = some o := by
  cases x with
  | none => cases h
  | some z => exact ⟨z, rfl, h⟩
section GW
variable {p : Program} {l : Launch} {e : Env} {R : Room} {s : State} {m : MethodId} {args : Array Value} {below : List Frame} {meth : Method} {c : Code} {H : Heap} {locs : List Loc} {cells slots : Nat} {Q : State → Prop}
variable {S : Type} {D : va_G} {cl : List vw_C} {tys : List (ClassId × FieldType)} {w : S → va_W} {A : Nat → Prop} {σ : S}
variable {cc : ByteArray} {nL pc : Nat} {ret : Option FieldType} {own : String} {Ts : List Cond} {ls : Array Slot} {rest st0 : List Value}
/-- what a frame of a method knows -/
def fx_ (p : Program) (s : State) (m : MethodId) (args : Array Value) (meth : Method) (c : Code) (cc : ByteArray) (nL : Nat) (ret : Option FieldType) (own : String) (Ts : List Cond) : Prop :=
  p.tables.exec = Jvm.exec ∧ c.code = cc ∧ meth.sig.returnType = ret ∧ c.maxLocals = nL ∧ s.vm.findClass own = some m.cls ∧ (∀ x ∈ Ts, x.before args s = true) ∧ meth.locks = false
/-- the heap H holds the world of σ; since the method's start only cells of A have changed -/
def gw_ (D : va_G) (cl : List vw_C) (tys : List (ClassId × FieldType)) (w : S → va_W) (A : Nat → Prop) (s : State) (σ : S) (H : Heap) (locs : List Loc) : Prop :=
  (va_K D cl tys s ∧ xb_ s) ∧ va_P D cl (w σ) H ∧ va_D A (w σ) ∧ va_S A s.heap H locs ∧ ∀ q, s.heap.size ≤ q → A q
def gw_P (D : va_G) (cl : List vw_C) (tys : List (ClassId × FieldType)) (w : S → va_W) (sz : Nat) (σ : S) (U : State) : Prop :=
  U.heap.size = sz ∧ va_P D cl (w σ) U.heap ∧ (va_K D cl tys U ∧ xb_ U) ∧ va_D (fun _ => True) (w σ)
def gw_B (D : va_G) (cl : List vw_C) (tys : List (ClassId × FieldType)) (w : S → va_W) (A : Nat → Prop) (σ : S) (t : State) : Prop :=
  va_P D cl (w σ) t.heap ∧ va_K D cl tys t ∧ va_D A (w σ)
def gw_Qi (D : va_G) (cl : List vw_C) (tys : List (ClassId × FieldType)) (w : S → va_W) (A : Nat → Prop) (o : Int32 × S) : Array Value → State → Outcome → State → Prop := va_Qi (fun r u => r = o.1 ∧ u = o.2) (gw_B D cl tys w A) A
def gw_Ql (D : va_G) (cl : List vw_C) (tys : List (ClassId × FieldType)) (w : S → va_W) (A : Nat → Prop) (o : Int64 × S) : Array Value → State → Outcome → State → Prop := va_Ql (fun r u => r = o.1 ∧ u = o.2) (gw_B D cl tys w A) A
def gw_Qv (D : va_G) (cl : List vw_C) (tys : List (ClassId × FieldType)) (w : S → va_W) (A : Nat → Prop) (o : S) : Array Value → State → Outcome → State → Prop := va_Qv (fun u => u = o) (gw_B D cl tys w A) A
/-- contracts: from the world of σ to that of the state of o -/
def gw_Mi (l : Launch) (D : va_G) (cl : List vw_C) (tys : List (ClassId × FieldType)) (w : S → va_W) (y : MethodName) (ws : List Cond) (rm : Room) (av : List Value) (σ : S) (o : Int32 × S) : Prop :=
  ∀ sz : Nat, Met l y ws rm (va_Pc av (gw_P D cl tys w sz σ)) (gw_Qi D cl tys w (va_A (w σ) sz) o) rm.cells rm.slots (va_A (w σ) sz)
/-- .. whose answer is 0 or 1 -/
def gw_Mz (l : Launch) (D : va_G) (cl : List vw_C) (tys : List (ClassId × FieldType)) (w : S → va_W) (y : MethodName) (ws : List Cond) (rm : Room) (av : List Value) (σ : S) (o : Int32 × S) : Prop :=
  ∀ sz : Nat, Met l y ws rm (va_Pc av (gw_P D cl tys w sz σ)) (va_Qi (fun r u => (r = o.1 ∧ u = o.2) ∧ (o.1 = 0 ∨ o.1 = 1)) (gw_B D cl tys w (va_A (w σ) sz)) (va_A (w σ) sz)) rm.cells rm.slots (va_A (w σ) sz)
def gw_Ml (l : Launch) (D : va_G) (cl : List vw_C) (tys : List (ClassId × FieldType)) (w : S → va_W) (y : MethodName) (ws : List Cond) (rm : Room) (av : List Value) (σ : S) (o : Int64 × S) : Prop :=
  ∀ sz : Nat, Met l y ws rm (va_Pc av (gw_P D cl tys w sz σ)) (gw_Ql D cl tys w (va_A (w σ) sz) o) rm.cells rm.slots (va_A (w σ) sz)
def gw_Mv (l : Launch) (D : va_G) (cl : List vw_C) (tys : List (ClassId × FieldType)) (w : S → va_W) (y : MethodName) (ws : List Cond) (rm : Room) (av : List Value) (σ : S) (o : S) : Prop :=
  ∀ sz : Nat, Met l y ws rm (va_Pc av (gw_P D cl tys w sz σ)) (gw_Qv D cl tys w (va_A (w σ) sz) o) rm.cells rm.slots (va_A (w σ) sz)
theorem gw_free {sz : Nat} (hD : va_D A (w σ)) (h : ∀ q, sz ≤ q → A q) : ∀ q, va_A (w σ) sz q → A q := by
  rintro q (⟨k, e, hk⟩ | hq)
  · exact hD.2 k (q, e) hk
  · exact h q hq
theorem gw_blind {av : List Value} {sz : Nat} : FrameBlind (va_Pc av (gw_P D cl tys w sz σ)) := by
  intro a U g mk q
  obtain ⟨q0, q1, qP, qK, qD⟩ := q
  exact ⟨q0, q1, qP, ⟨va_K.moved (u := U) (U := U.calling g mk a) (Vm.Alike.refl U.vm) qK.1, xb_call qK.2⟩, qD⟩
theorem gw_pre {av : List Value} (hW : gw_ D cl tys w A s σ H locs) : ∀ U : State, U.heap = H → s.WarmedH U.vm → va_Pc av (gw_P D cl tys w H.size σ) av.toArray U := by
  obtain ⟨hK, hP, hD, -, -⟩ := hW
  intro U hU hW
  exact ⟨rfl, by rw [hU], by rw [hU]; exact hP, ⟨va_K.moved hW.alike hK.1, xb_warm hW hK.2⟩, hD.weaken (fun _ _ _ _ => trivial)⟩
/-- how a contract's body begins -/
theorem gw_start {av : List Value} (hv : va_Pc av (gw_P D cl tys w s.heap.size σ) args s) : args = av.toArray ∧ gw_ D cl tys w (va_A (w σ) s.heap.size) s σ s.heap [] := by
  obtain ⟨h1, -, hP, hK, hD⟩ := hv
  exact ⟨h1, hK, hP, hD.self, va_S.rf, fun q h => Or.inr h⟩
theorem gw_size {av : List Value} {sz : Nat} (hv : va_Pc av (gw_P D cl tys w sz σ) args s) : s.heap.size = sz := hv.2.1
/-- calls: the callee gets the whole world -/
theorem gw_runi {mc ms : Nat} {a : Array Value} {o : Int32 × S} (hW : gw_ D cl tys w A s σ H locs) (hr : va_Run p l e R s m args below meth c H locs cells slots mc ms (F0 m pc ls st0) rest (gw_Qi D cl tys w (va_A (w σ) H.size) o a) (va_A (w σ) H.size))
    (kk : ∀ (H1 : Heap) (locs1 : List Loc), gw_ D cl tys w A s o.2 H1 locs1 → W p l e R s m args below meth c H1 locs1 (cells + mc) (slots + ms) Q (F0 m (pc + 3) ls (.int o.1 :: rest))) : W p l e R s m args below meth c H locs cells slots Q (F0 m pc ls st0) := by
  obtain ⟨hK, hP, hD, hS, hA⟩ := hW
  have hFc := gw_free (w := w) (σ := σ) hD (sz := H.size) (fun q h => hA q (Nat.le_trans hS.1 h))
  refine va_calli hr hS (fun q _ h => hFc q h) hFc (fun r u t H1 locs ht hvm hw hB hz1 hk1 hS => ?_)
  obtain ⟨hP1, hK1, hD1⟩ := hB
  obtain ⟨rfl, rfl⟩ := hw
  rw [ht] at hP1
  exact kk H1 locs ⟨hK, hP1, hD1.weaken (fun _ _ _ h => hFc _ h), hS, hA⟩
theorem gw_runz {mc ms : Nat} {a : Array Value} {o : Int32 × S} (hW : gw_ D cl tys w A s σ H locs) (hr : va_Run p l e R s m args below meth c H locs cells slots mc ms (F0 m pc ls st0) rest (va_Qi (fun r u => (r = o.1 ∧ u = o.2) ∧ (o.1 = 0 ∨ o.1 = 1)) (gw_B D cl tys w (va_A (w σ) H.size)) (va_A (w σ) H.size) a) (va_A (w σ) H.size))
    (kk : ∀ (H1 : Heap) (locs1 : List Loc), (o.1 = 0 ∨ o.1 = 1) → gw_ D cl tys w A s o.2 H1 locs1 → W p l e R s m args below meth c H1 locs1 (cells + mc) (slots + ms) Q (F0 m (pc + 3) ls (.int o.1 :: rest))) : W p l e R s m args below meth c H locs cells slots Q (F0 m pc ls st0) := by
  obtain ⟨hK, hP, hD, hS, hA⟩ := hW
  have hFc := gw_free (w := w) (σ := σ) hD (sz := H.size) (fun q h => hA q (Nat.le_trans hS.1 h))
  refine va_calli hr hS (fun q _ h => hFc q h) hFc (fun r u t H1 locs ht hvm hw hB hz1 hk1 hS => ?_)
  obtain ⟨hP1, hK1, hD1⟩ := hB
  obtain ⟨⟨rfl, rfl⟩, hz⟩ := hw
  rw [ht] at hP1
  exact kk H1 locs hz ⟨hK, hP1, hD1.weaken (fun _ _ _ h => hFc _ h), hS, hA⟩
theorem gw_runl {mc ms : Nat} {a : Array Value} {o : Int64 × S} (hW : gw_ D cl tys w A s σ H locs) (hr : va_Run p l e R s m args below meth c H locs cells slots mc ms (F0 m pc ls st0) rest (gw_Ql D cl tys w (va_A (w σ) H.size) o a) (va_A (w σ) H.size))
    (kk : ∀ (H1 : Heap) (locs1 : List Loc), gw_ D cl tys w A s o.2 H1 locs1 → W p l e R s m args below meth c H1 locs1 (cells + mc) (slots + ms) Q (F0 m (pc + 3) ls (.long o.1 :: rest))) : W p l e R s m args below meth c H locs cells slots Q (F0 m pc ls st0) := by
  obtain ⟨hK, hP, hD, hS, hA⟩ := hW
  have hFc := gw_free (w := w) (σ := σ) hD (sz := H.size) (fun q h => hA q (Nat.le_trans hS.1 h))
  refine va_calll hr hS (fun q _ h => hFc q h) hFc (fun r u t H1 locs ht hvm hw hB hz1 hk1 hS => ?_)
  obtain ⟨hP1, hK1, hD1⟩ := hB
  obtain ⟨rfl, rfl⟩ := hw
  rw [ht] at hP1
  exact kk H1 locs ⟨hK, hP1, hD1.weaken (fun _ _ _ h => hFc _ h), hS, hA⟩
theorem gw_runv {mc ms : Nat} {a : Array Value} {o : S} (hW : gw_ D cl tys w A s σ H locs) (hr : va_Run p l e R s m args below meth c H locs cells slots mc ms (F0 m pc ls st0) rest (gw_Qv D cl tys w (va_A (w σ) H.size) o a) (va_A (w σ) H.size))
    (kk : ∀ (H1 : Heap) (locs1 : List Loc), gw_ D cl tys w A s o H1 locs1 → W p l e R s m args below meth c H1 locs1 (cells + mc) (slots + ms) Q (F0 m (pc + 3) ls rest)) : W p l e R s m args below meth c H locs cells slots Q (F0 m pc ls st0) := by
  obtain ⟨hK, hP, hD, hS, hA⟩ := hW
  have hFc := gw_free (w := w) (σ := σ) hD (sz := H.size) (fun q h => hA q (Nat.le_trans hS.1 h))
  refine va_callv hr hS (fun q _ h => hFc q h) hFc (fun u t H1 locs ht hvm hw hB hz1 hk1 hS => ?_)
  obtain ⟨hP1, hK1, hD1⟩ := hB
  obtain rfl := hw
  rw [ht] at hP1
  exact kk H1 locs ⟨hK, hP1, hD1.weaken (fun _ _ _ h => hFc _ h), hS, hA⟩
variable {y : MethodName} {bytes : ByteArray} {maxL n index : Nat} {yret : Option FieldType} {yws : List Cond} {rm : Room} {b : Nat} {As : List Value} {C : String}
theorem gw_fix (F : fx_ p s m args meth c cc nL ret own Ts) : CallFix p m c cc nL s args Ts own := ⟨F.1, F.2.1, F.2.2.2.1, F.2.2.2.2.1, F.2.2.2.2.2.1⟩
/-- invokevirtual -/
theorem gw_Vi {o : Int32 × S} (F : fx_ p s m args meth c cc nL ret own Ts) (hW : gw_ D cl tys w A s σ H locs) (hM : gw_Mi l D cl tys w y yws rm (.ref b :: As) σ o) (cw : CallW R s args own C index y bytes maxL yret yws rm rm.cells rm.slots n) (q0 ci : Nat) {fs : List Value} {T : u_T} {N : Nat} (he : (w σ)[q0]? = some (b, .inr (ci, fs))) (hc : cl[ci]? = some (C, T, N)) (hn : As.length = n) (hsize : ls.size = nL) (hst : st0 = As.reverse ++ .ref b :: rest) (hroom : (rest.map fun v => v.category).sum ≤ 8) (hdg : decode cc pc = .ok (.invokevirtual index, 3)) (hf : cells + rm.cells ≤ R.cells ∧ slots + rm.slots ≤ R.slots) {mc' ms' : Nat} (hmc : cells + rm.cells = mc') (hms : slots + rm.slots = ms')
    (kk : ∀ (H1 : Heap) (locs1 : List Loc), gw_ D cl tys w A s o.2 H1 locs1 → W p l e R s m args below meth c H1 locs1 mc' ms' Q (F0 m (pc + 3) ls (.int o.1 :: rest))) : W p l e R s m args below meth c H locs cells slots Q (F0 m pc ls st0) := by
  subst hmc; subst hms
  exact gw_runi hW (va_runV (gw_fix F) (hM H.size) cw ⟨gw_blind, va_recv hW.1.1 hW.2.1 hc he, gw_pre hW⟩ rfl hn hsize hst (lv_room hroom) hdg hf) kk
theorem gw_Vz {o : Int32 × S} (F : fx_ p s m args meth c cc nL ret own Ts) (hW : gw_ D cl tys w A s σ H locs) (hM : gw_Mz l D cl tys w y yws rm (.ref b :: As) σ o) (cw : CallW R s args own C index y bytes maxL yret yws rm rm.cells rm.slots n) (q0 ci : Nat) {fs : List Value} {T : u_T} {N : Nat} (he : (w σ)[q0]? = some (b, .inr (ci, fs))) (hc : cl[ci]? = some (C, T, N)) (hn : As.length = n) (hsize : ls.size = nL) (hst : st0 = As.reverse ++ .ref b :: rest) (hroom : (rest.map fun v => v.category).sum ≤ 8) (hdg : decode cc pc = .ok (.invokevirtual index, 3)) (hf : cells + rm.cells ≤ R.cells ∧ slots + rm.slots ≤ R.slots) {mc' ms' : Nat} (hmc : cells + rm.cells = mc') (hms : slots + rm.slots = ms')
    (kk : ∀ (H1 : Heap) (locs1 : List Loc), (o.1 = 0 ∨ o.1 = 1) → gw_ D cl tys w A s o.2 H1 locs1 → W p l e R s m args below meth c H1 locs1 mc' ms' Q (F0 m (pc + 3) ls (.int o.1 :: rest))) : W p l e R s m args below meth c H locs cells slots Q (F0 m pc ls st0) := by
  subst hmc; subst hms
  exact gw_runz hW (va_runV (gw_fix F) (hM H.size) cw ⟨gw_blind, va_recv hW.1.1 hW.2.1 hc he, gw_pre hW⟩ rfl hn hsize hst (lv_room hroom) hdg hf) kk
theorem gw_Vl {o : Int64 × S} (F : fx_ p s m args meth c cc nL ret own Ts) (hW : gw_ D cl tys w A s σ H locs) (hM : gw_Ml l D cl tys w y yws rm (.ref b :: As) σ o) (cw : CallW R s args own C index y bytes maxL yret yws rm rm.cells rm.slots n) (q0 ci : Nat) {fs : List Value} {T : u_T} {N : Nat} (he : (w σ)[q0]? = some (b, .inr (ci, fs))) (hc : cl[ci]? = some (C, T, N)) (hn : As.length = n) (hsize : ls.size = nL) (hst : st0 = As.reverse ++ .ref b :: rest) (hroom : (rest.map fun v => v.category).sum ≤ 8) (hdg : decode cc pc = .ok (.invokevirtual index, 3)) (hf : cells + rm.cells ≤ R.cells ∧ slots + rm.slots ≤ R.slots) {mc' ms' : Nat} (hmc : cells + rm.cells = mc') (hms : slots + rm.slots = ms')
    (kk : ∀ (H1 : Heap) (locs1 : List Loc), gw_ D cl tys w A s o.2 H1 locs1 → W p l e R s m args below meth c H1 locs1 mc' ms' Q (F0 m (pc + 3) ls (.long o.1 :: rest))) : W p l e R s m args below meth c H locs cells slots Q (F0 m pc ls st0) := by
  subst hmc; subst hms
  exact gw_runl hW (va_runV (gw_fix F) (hM H.size) cw ⟨gw_blind, va_recv hW.1.1 hW.2.1 hc he, gw_pre hW⟩ rfl hn hsize hst (lv_room hroom) hdg hf) kk
theorem gw_Vv {o : S} (F : fx_ p s m args meth c cc nL ret own Ts) (hW : gw_ D cl tys w A s σ H locs) (hM : gw_Mv l D cl tys w y yws rm (.ref b :: As) σ o) (cw : CallW R s args own C index y bytes maxL yret yws rm rm.cells rm.slots n) (q0 ci : Nat) {fs : List Value} {T : u_T} {N : Nat} (he : (w σ)[q0]? = some (b, .inr (ci, fs))) (hc : cl[ci]? = some (C, T, N)) (hn : As.length = n) (hsize : ls.size = nL) (hst : st0 = As.reverse ++ .ref b :: rest) (hroom : (rest.map fun v => v.category).sum ≤ 8) (hdg : decode cc pc = .ok (.invokevirtual index, 3)) (hf : cells + rm.cells ≤ R.cells ∧ slots + rm.slots ≤ R.slots) {mc' ms' : Nat} (hmc : cells + rm.cells = mc') (hms : slots + rm.slots = ms')
    (kk : ∀ (H1 : Heap) (locs1 : List Loc), gw_ D cl tys w A s o H1 locs1 → W p l e R s m args below meth c H1 locs1 mc' ms' Q (F0 m (pc + 3) ls rest)) : W p l e R s m args below meth c H locs cells slots Q (F0 m pc ls st0) := by
  subst hmc; subst hms
  exact gw_runv hW (va_runV (gw_fix F) (hM H.size) cw ⟨gw_blind, va_recv hW.1.1 hW.2.1 hc he, gw_pre hW⟩ rfl hn hsize hst (lv_room hroom) hdg hf) kk
/-- invokestatic -/
theorem gw_Si {o : Int32 × S} (F : fx_ p s m args meth c cc nL ret own Ts) (hW : gw_ D cl tys w A s σ H locs) (hM : gw_Mi l D cl tys w y yws rm As σ o) (cw : CallB R s args own index y bytes maxL yret yws rm rm.cells rm.slots n ∧ (Cond.static y).before args s = true) (hn : As.length = n) (hsize : ls.size = nL) (hst : st0 = As.reverse ++ rest) (hroom : (rest.map fun v => v.category).sum ≤ 8) (hdg : decode cc pc = .ok (.invokestatic index, 3)) (hf : cells + rm.cells ≤ R.cells ∧ slots + rm.slots ≤ R.slots) {mc' ms' : Nat} (hmc : cells + rm.cells = mc') (hms : slots + rm.slots = ms')
    (kk : ∀ (H1 : Heap) (locs1 : List Loc), gw_ D cl tys w A s o.2 H1 locs1 → W p l e R s m args below meth c H1 locs1 mc' ms' Q (F0 m (pc + 3) ls (.int o.1 :: rest))) : W p l e R s m args below meth c H locs cells slots Q (F0 m pc ls st0) := by
  subst hmc; subst hms
  exact gw_runi hW (va_runS (gw_fix F) (hM H.size) cw ⟨gw_blind, gw_pre hW⟩ rfl hn hsize hst (lv_room hroom) hdg hf) kk
theorem gw_Sz {o : Int32 × S} (F : fx_ p s m args meth c cc nL ret own Ts) (hW : gw_ D cl tys w A s σ H locs) (hM : gw_Mz l D cl tys w y yws rm As σ o) (cw : CallB R s args own index y bytes maxL yret yws rm rm.cells rm.slots n ∧ (Cond.static y).before args s = true) (hn : As.length = n) (hsize : ls.size = nL) (hst : st0 = As.reverse ++ rest) (hroom : (rest.map fun v => v.category).sum ≤ 8) (hdg : decode cc pc = .ok (.invokestatic index, 3)) (hf : cells + rm.cells ≤ R.cells ∧ slots + rm.slots ≤ R.slots) {mc' ms' : Nat} (hmc : cells + rm.cells = mc') (hms : slots + rm.slots = ms')
    (kk : ∀ (H1 : Heap) (locs1 : List Loc), (o.1 = 0 ∨ o.1 = 1) → gw_ D cl tys w A s o.2 H1 locs1 → W p l e R s m args below meth c H1 locs1 mc' ms' Q (F0 m (pc + 3) ls (.int o.1 :: rest))) : W p l e R s m args below meth c H locs cells slots Q (F0 m pc ls st0) := by
  subst hmc; subst hms
  exact gw_runz hW (va_runS (gw_fix F) (hM H.size) cw ⟨gw_blind, gw_pre hW⟩ rfl hn hsize hst (lv_room hroom) hdg hf) kk
theorem gw_Sv {o : S} (F : fx_ p s m args meth c cc nL ret own Ts) (hW : gw_ D cl tys w A s σ H locs) (hM : gw_Mv l D cl tys w y yws rm As σ o) (cw : CallB R s args own index y bytes maxL yret yws rm rm.cells rm.slots n ∧ (Cond.static y).before args s = true) (hn : As.length = n) (hsize : ls.size = nL) (hst : st0 = As.reverse ++ rest) (hroom : (rest.map fun v => v.category).sum ≤ 8) (hdg : decode cc pc = .ok (.invokestatic index, 3)) (hf : cells + rm.cells ≤ R.cells ∧ slots + rm.slots ≤ R.slots) {mc' ms' : Nat} (hmc : cells + rm.cells = mc') (hms : slots + rm.slots = ms')
    (kk : ∀ (H1 : Heap) (locs1 : List Loc), gw_ D cl tys w A s o H1 locs1 → W p l e R s m args below meth c H1 locs1 mc' ms' Q (F0 m (pc + 3) ls rest)) : W p l e R s m args below meth c H locs cells slots Q (F0 m pc ls st0) := by
  subst hmc; subst hms
  exact gw_runv hW (va_runS (gw_fix F) (hM H.size) cw ⟨gw_blind, gw_pre hW⟩ rfl hn hsize hst (lv_room hroom) hdg hf) kk
/-- invokevirtual of a method that the receiver's class has in another's place -/
theorem gw_Ui {o : Int32 × S} {owner : String} {x : MethodName} (F : fx_ p s m args meth c cc nL ret own Ts) (hW : gw_ D cl tys w A s σ H locs) (hM : gw_Mi l D cl tys w y yws rm (.ref b :: As) σ o) (cw : va_CU R s args own C owner index x y bytes maxL yret yws rm rm.cells rm.slots n) (q0 ci : Nat) {fs : List Value} {T : u_T} {N : Nat} (he : (w σ)[q0]? = some (b, .inr (ci, fs))) (hc : cl[ci]? = some (C, T, N)) (hn : As.length = n) (hsize : ls.size = nL) (hst : st0 = As.reverse ++ .ref b :: rest) (hroom : (rest.map fun v => v.category).sum ≤ 8) (hdg : decode cc pc = .ok (.invokevirtual index, 3)) (hf : cells + rm.cells ≤ R.cells ∧ slots + rm.slots ≤ R.slots) {mc' ms' : Nat} (hmc : cells + rm.cells = mc') (hms : slots + rm.slots = ms')
    (kk : ∀ (H1 : Heap) (locs1 : List Loc), gw_ D cl tys w A s o.2 H1 locs1 → W p l e R s m args below meth c H1 locs1 mc' ms' Q (F0 m (pc + 3) ls (.int o.1 :: rest))) : W p l e R s m args below meth c H locs cells slots Q (F0 m pc ls st0) := by
  subst hmc; subst hms
  exact gw_runi hW (va_runU (gw_fix F) (hM H.size) cw ⟨gw_blind, va_recv hW.1.1 hW.2.1 hc he, gw_pre hW⟩ rfl hn hsize hst (lv_room hroom) hdg hf) kk
/-- fields -/
theorem gw_get {ref : String} {T : u_T} {N : Nat} (F : fx_ p s m args meth c cc nL ret own Ts) (hin : ∀ x ∈ u_ws C T N, x ∈ Ts) (hW : gw_ D cl tys w A s σ H locs) (q0 ci k : Nat) {fs : List Value} {v : Value} (he : (w σ)[q0]? = some (b, .inr (ci, fs))) (hc : cl[ci]? = some (C, T, N)) (hk : k < N) (hlink : (Cond.fieldLink own index ref (T k).2.1 (T k).2.2.1).before args s = true) (hsame : ∀ x, s.fieldFound? (T k).1 (T k).2.1 (T k).2.2.1 = some x → s.fieldFound? ref (T k).2.1 (T k).2.2.1 = some x) (hv : fs[k]? = some v) (hdg : decode cc pc = .ok (.getfield index, 3))
    (kk : W p l e R s m args below meth c H locs cells slots Q (F0 m (pc + 3) ls (v :: rest))) : W p l e R s m args below meth c H locs cells slots Q (F0 m pc ls (.ref b :: rest)) :=
  va_get F.1 F.2.1 F.2.2.2.2.2.1 hin F.2.2.2.2.1 hW.1.1 hW.2.1 q0 he hc k hk hlink hsame hv hdg kk
theorem gw_put {ref : String} {T : u_T} {N : Nat} {σ' : S} (F : fx_ p s m args meth c cc nL ret own Ts) (hin : ∀ x ∈ u_ws C T N, x ∈ Ts) (ty0 : Nat → FieldType) (hty : ∀ k, k < N → parseFieldDescriptor (T k).2.2.1 = some (ty0 k)) (hnm : ∀ a, a < N → ∀ b, b < N → a ≠ b → (T a).2.1 ≠ (T b).2.1) (hW : gw_ D cl tys w A s σ H locs) (q0 ci k : Nat) {fs : List Value} {v : Value} (he : (w σ)[q0]? = some (b, .inr (ci, fs))) (hc : cl[ci]? = some (C, T, N)) (hk : k < N) (hlink : (Cond.fieldLink own index ref (T k).2.1 (T k).2.2.1).before args s = true) (hsame : ∀ x, s.fieldFound? (T k).1 (T k).2.1 (T k).2.2.1 = some x → s.fieldFound? ref (T k).2.1 (T k).2.2.1 = some x) (hfin : (T k).2.2.2 = false) {ty : FieldType} (hd : parseFieldDescriptor (T k).2.2.1 = some ty) (hn : narrow ty v = v) (hfit : fits ty v = true) (hl : k < fs.length) (hdg : decode cc pc = .ok (.putfield index, 3)) (hset : (w σ).set q0 (b, .inr (ci, fs.set k v)) = w σ')
    (kk : ∀ (H1 : Heap) (locs1 : List Loc), gw_ D cl tys w A s σ' H1 locs1 → W p l e R s m args below meth c H1 locs1 cells slots Q (F0 m (pc + 3) ls rest)) : W p l e R s m args below meth c H locs cells slots Q (F0 m pc ls (v :: .ref b :: rest)) := by
  refine va_put F.1 F.2.1 F.2.2.2.2.2.1 hin ty0 hty hnm F.2.2.2.2.1 hW.1.1 hW.2.1 hW.2.2.1 hW.2.2.2.1 q0 he hc k hk hlink hsame hfin hd hn hfit hl hdg (fun H1 locs1 hP hD hS => ?_)
  rw [hset] at hP hD
  exact kk H1 locs1 ⟨hW.1, hP, hD, hS, hW.2.2.2.2⟩
/-- arrays -/
theorem gw_bald (F : fx_ p s m args meth c cc nL ret own Ts) (hW : gw_ D cl tys w A s σ H locs) (q0 t0 : Nat) {cA : ClassId} {n : Nat} {f : Nat → Int32} (ha : (w σ)[q0]? = some (b, .inl (cA, n, .inl f))) (ht : tys[t0]? = some (cA, .byte)) {i : Int32} (hin : ¬ (i < 0 ∨ n ≤ i.toNatClampNeg)) (hdg : decode cc pc = .ok (.baload, 1))
    (kk : W p l e R s m args below meth c H locs cells slots Q (F0 m (pc + 1) ls (.int (f i.toNatClampNeg) :: rest))) : W p l e R s m args below meth c H locs cells slots Q (F0 m pc ls (.int i :: .ref b :: rest)) := va_bald F.1 F.2.1 hW.1.1 hW.2.1 q0 t0 ha ht hin hdg kk
theorem gw_iald (F : fx_ p s m args meth c cc nL ret own Ts) (hW : gw_ D cl tys w A s σ H locs) (q0 t0 : Nat) {cA : ClassId} {n : Nat} {f : Nat → Int32} (ha : (w σ)[q0]? = some (b, .inl (cA, n, .inl f))) (ht : tys[t0]? = some (cA, .int)) {i : Int32} (hin : ¬ (i < 0 ∨ n ≤ i.toNatClampNeg)) (hdg : decode cc pc = .ok (.iaload, 1))
    (kk : W p l e R s m args below meth c H locs cells slots Q (F0 m (pc + 1) ls (.int (f i.toNatClampNeg) :: rest))) : W p l e R s m args below meth c H locs cells slots Q (F0 m pc ls (.int i :: .ref b :: rest)) := va_iald F.1 F.2.1 hW.1.1 hW.2.1 q0 t0 ha ht hin hdg kk
theorem gw_bast {σ' : S} (F : fx_ p s m args meth c cc nL ret own Ts) (hW : gw_ D cl tys w A s σ H locs) (q0 t0 : Nat) {cA : ClassId} {n : Nat} {f : Nat → Int32} (ha : (w σ)[q0]? = some (b, .inl (cA, n, .inl f))) (ht : tys[t0]? = some (cA, .byte)) {i x : Int32} (hin : ¬ (i < 0 ∨ n ≤ i.toNatClampNeg)) (hdg : decode cc pc = .ok (.bastore, 1)) (hset : (w σ).set q0 (b, .inl (cA, n, .inl (upd f i.toNatClampNeg (vp_nar .byte x)))) = w σ')
    (kk : ∀ (H1 : Heap) (locs1 : List Loc), gw_ D cl tys w A s σ' H1 locs1 → W p l e R s m args below meth c H1 locs1 cells slots Q (F0 m (pc + 1) ls rest)) : W p l e R s m args below meth c H locs cells slots Q (F0 m pc ls (.int x :: .int i :: .ref b :: rest)) := by
  refine va_bast F.1 F.2.1 hW.1.1 hW.2.1 hW.2.2.1 hW.2.2.2.1 q0 t0 ha ht hin hdg (fun H1 locs1 hP hD hS => ?_)
  rw [hset] at hP hD
  exact kk H1 locs1 ⟨hW.1, hP, hD, hS, hW.2.2.2.2⟩
theorem gw_iast {σ' : S} (F : fx_ p s m args meth c cc nL ret own Ts) (hW : gw_ D cl tys w A s σ H locs) (q0 t0 : Nat) {cA : ClassId} {n : Nat} {f : Nat → Int32} (ha : (w σ)[q0]? = some (b, .inl (cA, n, .inl f))) (ht : tys[t0]? = some (cA, .int)) {i x : Int32} (hin : ¬ (i < 0 ∨ n ≤ i.toNatClampNeg)) (hdg : decode cc pc = .ok (.iastore, 1)) (hset : (w σ).set q0 (b, .inl (cA, n, .inl (upd f i.toNatClampNeg x))) = w σ')
    (kk : ∀ (H1 : Heap) (locs1 : List Loc), gw_ D cl tys w A s σ' H1 locs1 → W p l e R s m args below meth c H1 locs1 cells slots Q (F0 m (pc + 1) ls rest)) : W p l e R s m args below meth c H locs cells slots Q (F0 m pc ls (.int x :: .int i :: .ref b :: rest)) := by
  refine va_iast F.1 F.2.1 hW.1.1 hW.2.1 hW.2.2.1 hW.2.2.2.1 q0 t0 ha ht hin hdg (fun H1 locs1 hP hD hS => ?_)
  rw [hset] at hP hD
  exact kk H1 locs1 ⟨hW.1, hP, hD, hS, hW.2.2.2.2⟩
theorem gw_zald (F : fx_ p s m args meth c cc nL ret own Ts) (hW : gw_ D cl tys w A s σ H locs) (q0 t0 : Nat) {cA : ClassId} {n : Nat} {f : Nat → Int32} (ha : (w σ)[q0]? = some (b, .inl (cA, n, .inl f))) (ht : tys[t0]? = some (cA, .boolean)) {i : Int32} (hin : ¬ (i < 0 ∨ n ≤ i.toNatClampNeg)) (hdg : decode cc pc = .ok (.baload, 1))
    (kk : W p l e R s m args below meth c H locs cells slots Q (F0 m (pc + 1) ls (.int (f i.toNatClampNeg) :: rest))) : W p l e R s m args below meth c H locs cells slots Q (F0 m pc ls (.int i :: .ref b :: rest)) := va_zald F.1 F.2.1 hW.1.1 hW.2.1 q0 t0 ha ht hin hdg kk
theorem gw_zast {σ' : S} (F : fx_ p s m args meth c cc nL ret own Ts) (hW : gw_ D cl tys w A s σ H locs) (q0 t0 : Nat) {cA : ClassId} {n : Nat} {f : Nat → Int32} (ha : (w σ)[q0]? = some (b, .inl (cA, n, .inl f))) (ht : tys[t0]? = some (cA, .boolean)) {i x : Int32} (hin : ¬ (i < 0 ∨ n ≤ i.toNatClampNeg)) (hdg : decode cc pc = .ok (.bastore, 1)) (hset : (w σ).set q0 (b, .inl (cA, n, .inl (upd f i.toNatClampNeg (vp_nar .boolean x)))) = w σ')
    (kk : ∀ (H1 : Heap) (locs1 : List Loc), gw_ D cl tys w A s σ' H1 locs1 → W p l e R s m args below meth c H1 locs1 cells slots Q (F0 m (pc + 1) ls rest)) : W p l e R s m args below meth c H locs cells slots Q (F0 m pc ls (.int x :: .int i :: .ref b :: rest)) := by
  refine va_zast F.1 F.2.1 hW.1.1 hW.2.1 hW.2.2.1 hW.2.2.2.1 q0 t0 ha ht hin hdg (fun H1 locs1 hP hD hS => ?_)
  rw [hset] at hP hD
  exact kk H1 locs1 ⟨hW.1, hP, hD, hS, hW.2.2.2.2⟩
theorem gw_lald (F : fx_ p s m args meth c cc nL ret own Ts) (hW : gw_ D cl tys w A s σ H locs) (q0 t0 : Nat) {cA : ClassId} {n : Nat} {f : Nat → Int64} (ha : (w σ)[q0]? = some (b, .inl (cA, n, .inr (.inl f)))) (ht : tys[t0]? = some (cA, .long)) {i : Int32} (hin : ¬ (i < 0 ∨ n ≤ i.toNatClampNeg)) (hdg : decode cc pc = .ok (.laload, 1))
    (kk : W p l e R s m args below meth c H locs cells slots Q (F0 m (pc + 1) ls (.long (f i.toNatClampNeg) :: rest))) : W p l e R s m args below meth c H locs cells slots Q (F0 m pc ls (.int i :: .ref b :: rest)) := va_lald F.1 F.2.1 hW.1.1 hW.2.1 q0 t0 ha ht hin hdg kk
theorem gw_last {σ' : S} (F : fx_ p s m args meth c cc nL ret own Ts) (hW : gw_ D cl tys w A s σ H locs) (q0 t0 : Nat) {cA : ClassId} {n : Nat} {f : Nat → Int64} (ha : (w σ)[q0]? = some (b, .inl (cA, n, .inr (.inl f)))) (ht : tys[t0]? = some (cA, .long)) {i : Int32} {x : Int64} (hin : ¬ (i < 0 ∨ n ≤ i.toNatClampNeg)) (hdg : decode cc pc = .ok (.lastore, 1)) (hset : (w σ).set q0 (b, .inl (cA, n, .inr (.inl (vp_updL f i.toNatClampNeg x)))) = w σ')
    (kk : ∀ (H1 : Heap) (locs1 : List Loc), gw_ D cl tys w A s σ' H1 locs1 → W p l e R s m args below meth c H1 locs1 cells slots Q (F0 m (pc + 1) ls rest)) : W p l e R s m args below meth c H locs cells slots Q (F0 m pc ls (.long x :: .int i :: .ref b :: rest)) := by
  refine va_last F.1 F.2.1 hW.1.1 hW.2.1 hW.2.2.1 hW.2.2.2.1 q0 t0 ha ht hin hdg (fun H1 locs1 hP hD hS => ?_)
  rw [hset] at hP hD
  exact kk H1 locs1 ⟨hW.1, hP, hD, hS, hW.2.2.2.2⟩
theorem gw_alen (F : fx_ p s m args meth c cc nL ret own Ts) (hW : gw_ D cl tys w A s σ H locs) (q0 t0 : Nat) {cA : ClassId} {x : vp_A} {ty : FieldType} (ha : (w σ)[q0]? = some (b, .inl (cA, x))) (ht : tys[t0]? = some (cA, ty)) (hdg : decode cc pc = .ok (.arraylength, 1))
    (kk : W p l e R s m args below meth c H locs cells slots Q (F0 m (pc + 1) ls (.int (Int32.ofNat x.1) :: rest))) : W p l e R s m args below meth c H locs cells slots Q (F0 m pc ls (.ref b :: rest)) := va_alen F.1 F.2.1 hW.1.1 hW.2.1 q0 t0 ha ht rfl hdg kk
/-- System.arraycopy between byte arrays of the world -/
theorem gw_copyb {σ' : S} (F : fx_ p s m args meth c cc nL ret own Ts) (hW : gw_ D cl tys w A s σ H locs) (hlink : (Cond.methodLink own index arraycopyName).before args s = true) (hnat : (Cond.native arraycopyName).before args s = true) (hstat : (Cond.static arraycopyName).before args s = true) (hini : (Cond.initialized "java/lang/System").before args s = true)
    (q0 q1 t0 t1 : Nat) {a0 a1 : Nat} {c0 c1 : ClassId} {n0 n1 : Nat} {f g : Nat → Int32} (ha0 : (w σ)[q0]? = some (a0, .inl (c0, n0, .inl f))) (ha1 : (w σ)[q1]? = some (a1, .inl (c1, n1, .inl g))) (ht0 : tys[t0]? = some (c0, .byte)) (ht1 : tys[t1]? = some (c1, .byte))
    {sp dp n : Int32} (h : ¬ (sp < 0 ∨ dp < 0 ∨ n < 0 ∨ n0 < sp.toNatClampNeg + n.toNatClampNeg ∨ n1 < dp.toNatClampNeg + n.toNatClampNeg)) (hfit : ∀ i, i < n.toNatClampNeg → fits .byte (.int (f (sp.toNatClampNeg + i))) = true) (hsize : ls.size = nL)
    (hframes : 1 ≤ R.frames) (hlocals : (rest.map fun v => v.category).sum + (nativeFrameWords "java/lang/System" "arraycopy" 5 + 11) ≤ R.locals) (hdg : decode cc pc = .ok (.invokestatic index, 3)) (hset : (w σ).set q1 (a1, .inl (c1, n1, .inl (va_cpy f g sp.toNatClampNeg dp.toNatClampNeg n.toNatClampNeg))) = w σ')
    (kk : ∀ (H1 : Heap) (locs1 : List Loc), gw_ D cl tys w A s σ' H1 locs1 → W p l e R s m args below meth c H1 locs1 cells slots Q (F0 m (pc + 3) ls rest)) : W p l e R s m args below meth c H locs cells slots Q (F0 m pc ls (.int n :: .int dp :: .ref a1 :: .int sp :: .ref a0 :: rest)) := by
  refine va_copyi F.1 F.2.1 (F.2.2.2.1.trans hsize.symm) F.2.2.2.2.1 hlink hnat hstat hini hW.1.1 hW.2.1 hW.2.2.1 hW.2.2.2.1 q0 q1 t0 t1 ha0 ha1 ht0 ht1 rfl (fun x => h (Or.inl x)) (fun x => h (Or.inr (Or.inl x))) (fun x => h (Or.inr (Or.inr (Or.inl x)))) (Nat.le_of_not_lt fun x => h (Or.inr (Or.inr (Or.inr (Or.inl x))))) (Nat.le_of_not_lt fun x => h (Or.inr (Or.inr (Or.inr (Or.inr x))))) hfit hframes hlocals hdg (fun H1 locs1 hP hD hS => ?_)
  rw [hset] at hP hD
  exact kk H1 locs1 ⟨hW.1, hP, hD, hS, hW.2.2.2.2⟩
/-- ends -/
theorem gw_reti {o : Int32 × S} {v : Int32} (F : fx_ p s m args meth c cc nL (some .int) own Ts) (hW : gw_ D cl tys w A s σ H locs) (ho : some (v, σ) = some o) (hdg : decode cc pc = .ok (.ireturn, 1)) : W p l e R s m args below meth c H locs cells slots (MQ below (gw_Qi D cl tys w A o) args s cells slots A) (F0 m pc ls [.int v]) := by
  obtain ⟨hK, hP, hD, hS, hA⟩ := hW
  cases ho
  exact W.iret F.1 F.2.1 F.2.2.1 (fun t ht hW => ⟨⟨v, σ, rfl, ⟨rfl, rfl⟩, by rw [ht]; exact hP, va_K.moved hW.alike hK.1, hD⟩, hS.F ht⟩) hS.2.2 hdg F.2.2.2.2.2.2
theorem gw_retz {o : Int32 × S} {v : Int32} (F : fx_ p s m args meth c cc nL (some .boolean) own Ts) (hW : gw_ D cl tys w A s σ H locs) (ho : some (v, σ) = some o) (hz : v = 0 ∨ v = 1) (hdg : decode cc pc = .ok (.ireturn, 1)) : W p l e R s m args below meth c H locs cells slots (MQ below (va_Qi (fun r u => (r = o.1 ∧ u = o.2) ∧ (o.1 = 0 ∨ o.1 = 1)) (gw_B D cl tys w A) A) args s cells slots A) (F0 m pc ls [.int v]) := by
  obtain ⟨hK, hP, hD, hS, hA⟩ := hW
  cases ho
  exact W.zret F.1 F.2.1 F.2.2.1 (by rcases hz with rfl | rfl <;> rfl) (fun t ht hW => ⟨⟨v, σ, rfl, ⟨⟨rfl, rfl⟩, hz⟩, by rw [ht]; exact hP, va_K.moved hW.alike hK.1, hD⟩, hS.F ht⟩) hS.2.2 hdg F.2.2.2.2.2.2
theorem gw_retl {o : Int64 × S} {v : Int64} (F : fx_ p s m args meth c cc nL (some .long) own Ts) (hW : gw_ D cl tys w A s σ H locs) (ho : some (v, σ) = some o) (hdg : decode cc pc = .ok (.lreturn, 1)) : W p l e R s m args below meth c H locs cells slots (MQ below (gw_Ql D cl tys w A o) args s cells slots A) (F0 m pc ls [.long v]) := by
  obtain ⟨hK, hP, hD, hS, hA⟩ := hW
  cases ho
  exact W.lret F.1 F.2.1 F.2.2.1 (fun t ht hW => ⟨⟨v, σ, rfl, ⟨rfl, rfl⟩, by rw [ht]; exact hP, va_K.moved hW.alike hK.1, hD⟩, hS.F ht⟩) hS.2.2 hdg F.2.2.2.2.2.2
theorem gw_retv {o : S} (F : fx_ p s m args meth c cc nL none own Ts) (hW : gw_ D cl tys w A s σ H locs) (ho : some σ = some o) (hdg : decode cc pc = .ok (.return_, 1)) : W p l e R s m args below meth c H locs cells slots (MQ below (gw_Qv D cl tys w A o) args s cells slots A) (F0 m pc ls []) := by
  obtain ⟨hK, hP, hD, hS, hA⟩ := hW
  cases ho
  exact W.vret F.1 F.2.1 F.2.2.1 (fun t ht hW => ⟨⟨σ, rfl, rfl, by rw [ht]; exact hP, va_K.moved hW.alike hK.1, hD⟩, hS.F ht⟩) hS.2.2 hdg F.2.2.2.2.2.2
/-- a whole contract out of the walk of its body -/
theorem gw_body {Qc : Array Value → State → Outcome → State → Prop} {av : List Value} {ws' : List Cond} {sz : Nat} {free : Nat → Prop} (hy : plainName y.cls = true) (hw : yws = Cond.code y cc maxL yret :: ws')
    (body : ∀ p e s m below meth c, fx_ p s m av.toArray meth c cc maxL yret y.cls yws → s.heap.size = sz → gw_ D cl tys w (va_A (w σ) sz) s σ s.heap [] →
      ∀ ls : Array Slot, lv_has ls maxL (lv_args 0 av) → W p l e rm s m av.toArray below meth c s.heap [] 0 0 (MQ below Qc av.toArray s rm.cells rm.slots free) (F0 m 0 ls [])) (hlen : (lg_sl av).length ≤ maxL) : Met l y yws rm (va_Pc av (gw_P D cl tys w sz σ)) Qc rm.cells rm.slots free := by
  refine Met.ofW (cc := cc) (maxL := maxL) (ret := yret) hy hw ?_
  intro p e s m args below meth c s₁ B hml hv
  have hsz : s.heap.size = sz := gw_size hv
  subst hsz
  obtain ⟨rfl, hW⟩ := gw_start hv
  have hl := lv_entry av (n := maxL) hlen
  rw [lg_entry_eq]
  exact body p e s m below meth c ⟨B.exec, B.bytes, B.returns, hml, findClass_of_methodNamed B.named, atoms_spec (ws := yws) B.pre, B.notSynchronized⟩ rfl hW _ hl
end GW

