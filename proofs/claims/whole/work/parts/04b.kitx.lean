def xstr : List (Nat × String) := [(107, "no volume can be made so on this disk"), (196, "there is nothing such to tell"), (201, "a file can't be entered"), (216, "the tape is no name for a new item here"), (226, "there is no free inode, or too few blocks are free"), (256, "a file can't grow by so many bytes"), (261, "the file has not so many bytes to keep"), (266, "the directory has items"), (277, "an item has three times"), (285, "there is no volume"), (293, "there is no such item here"), (296, "the item is a directory"), (298, "too few blocks are free")]
-- MY KIT, second part: methods that end by a throw
def exN (k : Nat) : String := match k with
  | 1 => "java/lang/IllegalStateException"
  | 2 => "java/lang/IndexOutOfBoundsException"
  | 3 => "java/lang/IllegalArgumentException"
  | _ => "java/lang/UnsupportedOperationException"
/-- where a static field lies, in a cell that nobody here may write -/
def xl_ (C n d : String) (A : Nat → Prop) (U : State) (H : Heap) : Prop := ∃ (c : ClassId) (k : Class) (i : Nat) (f : Field) (a : Nat) (cell : Cell), (U.vm.findClass C = some c ∧ U.fieldFound? C n d = some (c, k, i, f) ∧ f.isStatic = true ∧ k.statics = some a ∧ k.staticTypes[f.slot]? = some f.type) ∧ (H[a]? = some cell ∧ cell.vm.isStatics = true ∧ cell.cls = c ∧ f.slot < cell.slots.size) ∧ ¬ A a
theorem xl_of {C n d : String} {A : Nat → Prop} {s : State} {args : Array Value} (h : (Cond.laysStatic C n d).before args s = true) (hA : ∀ a : Nat, a < s.heap.size → ¬ A a) : xl_ C n d A s s.heap := by
  obtain ⟨c, k, i, f, a, cell, h1, h2, h3, h4, h5, h6, h7, h8, h9⟩ := Cond.laysStatic_spec h
  exact ⟨c, k, i, f, a, cell, ⟨h1, h2, h3, h4, h9⟩, ⟨h5, h6, h7, h8⟩, hA a (Array.getElem?_eq_some_iff.mp h5).1⟩
theorem xl_use {C n d : String} {A : Nat → Prop} {s : State} {args : Array Value} (h : xl_ C n d A s s.heap) : (Cond.laysStatic C n d).before args s = true := by
  obtain ⟨c, k, i, f, a, cell, ⟨h1, h2, h3, h4, h9⟩, ⟨h5, h6, h7, h8⟩, -⟩ := h
  show (Cond.laysStatic C n d).holds args s none s [] = true
  exact Cond.laysStatic_of h1 h2 h3 h4 h5 h6 h7 h8 h9
theorem xl_go {C n d : String} {A B : Nat → Prop} {s U : State} {H : Heap} (h : xl_ C n d A s H) (hvm : s.vm.Alike U.vm) {H1 : Heap} (hq : ∀ a : Nat, a < H.size → ¬ A a → H1[a]? = H[a]?) (hB : ∀ q, B q → A q) : xl_ C n d B U H1 := by
  obtain ⟨c, k, i, f, a, cell, ⟨h1, h2, h3, h4, h9⟩, ⟨h5, h6, h7, h8⟩, hn⟩ := h
  obtain ⟨k', h2', he⟩ := State.fieldFound?_setVm hvm h2
  refine ⟨c, k', i, f, a, cell, ⟨by rw [hvm.findClass]; exact h1, h2', h3, by rw [he]; exact h4, by rw [he]; exact h9⟩, ⟨?_, h6, h7, h8⟩, fun z => hn (hB a z)⟩
  rw [hq a (Array.getElem?_eq_some_iff.mp h5).1 hn]
  exact h5
def xst : List (String × String) := [("UNASSIGNED_STACK", "[Ljava/lang/StackTraceElement;"), ("SUPPRESSED_SENTINEL", "Ljava/util/List;")]
/-- what a throw needs of the start: two statics of Throwable, and the texts -/
def xz_ (A : Nat → Prop) (U : State) : Prop := (∀ x ∈ xst, va_Zq "java/lang/Throwable" x.1 x.2 A U U.heap ∧ xl_ "java/lang/Throwable" x.1 x.2 A U U.heap) ∧ ∀ x ∈ xstr, ∃ a, vk_R "InodeDesk" x.1 x.2 a U
theorem xz_go {A B : Nat → Prop} {s U : State} {locs : List Loc} (h : xz_ A s) (hW : s.WarmedH U.vm) (hS : va_S A s.heap U.heap locs) (hB : ∀ q, B q → A q) : xz_ B U := by
  refine ⟨fun x hx => ⟨?_, ?_⟩, fun x hx => ?_⟩
  · exact va_Zq.narrow (va_Zq.moved hW.alike (va_Zq.kept (h.1 x hx).1 hS.2.1)) hB
  · exact xl_go (h.1 x hx).2 hW.alike hS.2.1 hB
  · obtain ⟨a, ha⟩ := h.2 x hx
    exact ⟨a, vk_R.warm hW ha⟩
theorem xz_call {A : Nat → Prop} {U : State} {g : JFrame} {mk : MethodId} {a : Array Value} (h : xz_ A U) : xz_ A (U.calling g mk a) := by
  refine ⟨fun x hx => ⟨?_, ?_⟩, fun x hx => ?_⟩
  · exact va_Zq.moved (U := U.calling g mk a) (Vm.Alike.refl U.vm) (h.1 x hx).1
  · exact xl_go (U := U.calling g mk a) (h.1 x hx).2 (Vm.Alike.refl U.vm) (fun _ _ _ => rfl) (fun _ z => z)
  · obtain ⟨b, hb⟩ := h.2 x hx
    exact ⟨b, vk_R.same (u := U) (U := U.calling g mk a) rfl hb⟩
theorem xz_ref {A : Nat → Prop} {s : State} {args : Array Value} (h : xz_ A s) : ∀ x ∈ xst, (Cond.isRef (.static "java/lang/Throwable" x.1 x.2)).before args s = true := by
  intro x hx
  have key : ∀ v : Value, v.isRef = true → va_Z "java/lang/Throwable" x.1 x.2 v A s s.heap → (Cond.isRef (.static "java/lang/Throwable" x.1 x.2)).before args s = true := by
    intro v hv hz
    obtain ⟨cf, kf, fi, f, a, cell, h1, h2, h3, h4, h5, h6, h7, -⟩ := hz
    have he : (Term.static "java/lang/Throwable" x.1 x.2).eval args s none [] s = some v := by simp [Term.eval, State.fieldNamed?, h1, h2, h4, h5, h6, h7]
    simp only [Cond.before, Cond.holds, Cond.value, he]
    cases v <;> simp_all [Value.isRef]
  rcases (h.1 x hx).1 with hz | ⟨t, hz⟩
  · exact key _ rfl hz
  · exact key _ rfl hz
section TW
variable {p : Program} {l : Launch} {e : Env} {R : Room} {s : State} {m : MethodId} {args : Array Value} {below : List Frame} {meth : Method} {c : Code} {H : Heap} {locs : List Loc} {cells slots : Nat} {Q : State → Prop}
variable {cc : ByteArray} {nL pc : Nat} {ret : Option FieldType} {own : String} {Ts : List Cond} {ls : Array Slot} {rest st0 : List Value}
/-- the end of a body that throws -/
def TQ (below : List Frame) (XC : State → Addr → State → Prop) (s : State) (mc ms : Nat) (free : Addr → Prop) : State → Prop := fun t =>
  ∃ q, t.status = .running ∧ Ended t below (.threw q) ∧ XC s q t ∧ ∃ L, FrameEndT s (.threw q) t L mc ms ∧ ∀ z ∈ L, free z.base
/-- a method that throws, whoever calls it -/
def tw_Met (l : Launch) (y : MethodName) (ws : List Cond) (rm : Room) (Pc : Array Value → State → Prop) (XC : State → Addr → State → Prop) (mc ms : Nat) (free : Addr → Prop) : Prop :=
  MetFree l y (headSpec ws rm) Pc (fun _ _ _ _ _ => True) (fun _ st o t => ∃ q, o = .threw q ∧ XC st q t ∧ ∃ L, FrameEndT st o t L mc ms ∧ ∀ z ∈ L, free z.base)
def tw_Post (XC : State → Addr → State → Prop) (mc ms : Nat) (free : Addr → Prop) : Pt → Array Value → Addr → Pt → Prop := fun A a q B =>
  ∃ (g : JFrame) (mk : MethodId) (t : State) (L : List Loc), B.U.heap = t.heap ∧ B.U.vm = t.vm ∧ XC (A.U.calling g mk a) q t ∧ B.locs = A.locs ++ L ∧ (∀ z ∈ L, free z.base) ∧ B.cells = A.cells + mc ∧ B.slots = A.slots + ms
theorem tw_back {y : MethodName} {len W9 : Nat} {sargs : Array Value} {ws : List Cond} {rm : Room} {Pc : Array Value → State → Prop} {XC : State → Addr → State → Prop} {mc ms : Nat} {free : Addr → Prop} {bytes : ByteArray} {maxL : Nat} {ret : Option FieldType}
    (hM : tw_Met l y ws rm Pc XC mc ms free) (hblind : FrameBlind Pc) (hrc : rm.cells = mc) (hrs : rm.slots = ms) (hframes : rm.frames + 1 ≤ R.frames) (hlocals : W9 + (maxL + 11) + rm.locals ≤ R.locals)
    (hws : ∀ w ∈ ws, ∀ a' U, s.WarmedH U.vm → w.before a' U = true) (hcode : Cond.code y bytes maxL ret ∈ ws) (hinit : ∀ a' U, s.WarmedH U.vm → (Cond.initialized y.cls).before a' U = true) :
    BackT l R p e below s sargs y len W9 (PreOf R mc ms Pc) (tw_Post XC mc ms free) := by
  refine BackT.of_free (S := headSpec ws rm) (bytes := bytes) (maxL := maxL) (ret := ret) (E := fun _ _ _ _ L k n => k = mc ∧ n = ms ∧ ∀ z ∈ L, free z.base) hM hframes hlocals ?_ ?_ (fun _ _ _ _ _ _ _ _ _ => trivial) ?_ ?_
  · intro m meth c A a X hp
    refine ⟨atoms_intro fun w hw => hws w hw _ _ X.warmed, hws _ hcode _ _ X.warmed, hinit _ _ X.warmed, ?_, ?_⟩
    · rw [show (headSpec ws rm).room.cells = mc from hrc]; exact hp.1
    · rw [show (headSpec ws rm).room.slots = ms from hrs]; exact hp.2.1
  · intro m meth c A a g mk X hp
    exact hblind _ _ _ _ hp.2.2
  · rintro a st o t ⟨q, -, -, L, hF, hL⟩
    exact ⟨L, mc, ms, hF, rfl, rfl, hL⟩
  · rintro m meth c A a g mk v t L k n X hp ⟨q, hq, hx, -⟩ hF ⟨rfl, rfl, hL⟩
    cases hq
    exact ⟨g, mk, t, L, rfl, rfl, hx, rfl, hL, rfl, rfl⟩
/-- invokevirtual of a method that throws: the throw stands over the caller's frame -/
theorem tw_callV {T : State} (X : Stand p l e R s m args below meth c T locs cells slots) (hexec : p.tables.exec = Jvm.exec) {C : String} {index : Nat} {y : MethodName} {bytes : ByteArray} {maxL : Nat} {yret : Option FieldType}
    (hown : s.vm.findClass own = some m.cls) (hlink : (Cond.methodLink own index y).before args s = true) (hinst : (Cond.instanceMethod y).before args s = true) (hsel : (Cond.selects C y y).before args s = true)
    (hcode : (Cond.code y bytes maxL yret).before args s = true) (hy : y.cls ≠ "java/lang/invoke/MethodHandle" ∧ y.cls ≠ "java/lang/invoke/VarHandle")
    {W9 : Nat} {Pre : Pt → Array Value → Prop} {Post : Pt → Array Value → Addr → Pt → Prop} (hK : BackT l R p e below s args y 3 W9 Pre Post)
    {b : Addr} {cellB : Cell} (hcell : T.heap[b]? = some cellB) (hobj : cellB.vm.isStatics = false) (hcls : s.vm.findClass C = some cellB.cls)
    {g : JFrame} (hg : g.method = m) (hsize : g.locals.size = c.maxLocals) {As rest : List Value} (hlen : ∀ sig, parseMethodDescriptor y.desc = some sig → As.length = sig.parameters.length)
    (hstack : g.stack = As.reverse ++ .ref b :: rest) (hW : 2 * g.monitorRoom + (rest.map fun v => v.category).sum ≤ W9) (hdg : decode c.code g.pc = .ok (.invokevirtual index, 3))
    (hpre : ∀ vm₁, s.WarmedH vm₁ → Pre ⟨T.setVm vm₁, locs, cells, slots⟩ (Value.ref b :: As).toArray) :
    ∃ (q : Addr) (vm₁ : Vm) (B : Pt), s.WarmedH vm₁ ∧ Stand p l e R s m args below meth c B.U B.locs B.cells B.slots ∧ Post ⟨T.setVm vm₁, locs, cells, slots⟩ (Value.ref b :: As).toArray q B ∧
      Steps p.tables e below (T.setTop g) ((B.U.setTop { g with stack := rest }).pushFrame (.throwing q)) := by
  obtain ⟨mk, meY, hn, hmY, hst, hab⟩ := Cond.instanceMethod_spec hinst
  obtain ⟨meY', cY, hmY', -, -, -, -, -, -, hsig⟩ := Cond.code_spec hn hcode
  cases hmY.symm.trans hmY'
  obtain ⟨c2, r2, m2, q1, q2, q3, q4, kP, hkP, hkPi⟩ := Cond.selects_spec hsel
  cases hcls.symm.trans q1
  cases (State.methodFound?_of_named hn hy).symm.trans q2
  cases hn.symm.trans q3
  have hsl : selectMethod e.platform s.vm cellB.cls mk = .method mk := by rw [Launch.admits_selectMethod X.admits]; exact q4
  obtain ⟨vm₁, X₁, hs1⟩ := X.invokevirtual hexec hown hlink hn hmY hst hkP hkPi hy (a := b) (cell := cellB) hcell (fun z h => by rw [h] at hobj; cases hobj) hsl hmY hab hkP hkPi (g := g) hg (argsL := As) (rest := rest) (hlen _ hsig) hstack hdg
  obtain ⟨q, B, X', hpost, hst2⟩ := hK m meth c ⟨T.setVm vm₁, locs, cells, slots⟩ { g with stack := rest } (.invokevirtual index) mk (Value.ref b :: As).toArray X₁ hg hsize hdg hW (X₁.named hn) (hpre vm₁ X₁.warmed)
  exact ⟨q, vm₁, B, X₁.warmed, X', hpost, hs1 _ fun acts => by rw [doInvoke_state]; exact hst2⟩
/-- the frame as if it were called anew in this heap, with the room for one exception -/
theorem tw_stand {T : State} (X : Stand p l e R s m args below meth c T locs cells slots) (hc : cells + 1 ≤ R.cells) (hs : slots + 6 ≤ R.slots) :
    Stand p l e { frames := R.frames, locals := R.locals, cells := 1, slots := 6 } ((T.setVm s.vm).setFrames (.invoking m args :: below)) m args below meth c T [] 0 0 := by
  have htop : (T.setVm s.vm).topJava?.isSome := X.here.top
  have hfr : ((T.setVm s.vm).setFrames (.invoking m args :: below)).frames = .invoking m args :: below := State.frames_setFrames _ (State.cur_lt_of_top htop)
  have hnil : T.heap.toList.drop T.heap.size = [] := List.drop_eq_nil_of_le (Nat.le_of_eq Array.length_toList)
  constructor
  case admits => exact X.admits
  case cas => exact X.cas
  case clock => exact X.clock
  case frames => exact hfr
  case hears => exact X.hears
  case method => exact X.method
  case code => exact X.code
  case here => exact X.here
  case tail => exact X.tail
  case warmed => exact X.warmed
  case limits => rw [State.stackLimits_setFrames]; rfl
  case bytes => rw [State.stackBytes_setFrames]; rfl
  case room =>
    have h := X.room
    have q1 := X.heapSize
    have q2 := X.used
    have hu : ((T.setVm s.vm).setFrames (.invoking m args :: below)).localsInUse = s.localsInUse := by
      rw [State.localsInUse_invoking hfr (meth := meth) (c := c) X.method X.code, State.localsInUse_invoking X.frames X.method X.code]
    have hb : (T.setVm s.vm).me.stackBytes = s.me.stackBytes := X.bytes
    have hl : e.platform.stackLimits (T.setVm s.vm).me = e.platform.stackLimits s.me := X.limits
    simp only [State.hasRoom, Bool.and_eq_true, decide_eq_true_eq] at h ⊢
    obtain ⟨⟨⟨⟨h1, h2, h3, h4, h5, h6⟩, h7⟩, h8⟩, -⟩ := h
    rw [X.frames, List.length_cons] at h2 h3
    simp only [hfr, hu, List.length_cons, State.stackLimits_setFrames, State.stackBytes_setFrames, hl, hb]
    refine ⟨⟨⟨⟨by omega, by omega, by omega, by omega, by omega, h6⟩, ?_⟩, ?_⟩, X.book⟩
    · show T.heap.size + 1 ≤ e.platform.maxCells
      omega
    · show T.slotsUsed + 6 ≤ e.platform.maxSlots
      omega
  case same =>
    obtain ⟨g0, hg0⟩ := Option.isSome_iff_exists.mp htop
    obtain ⟨r0, hr0⟩ := State.topJava?_eq_some.mp hg0
    refine ⟨?_, Nat.le_refl _, Nat.le_refl _, ?_, ?_, fun a c9 h9 => ⟨c9, h9, rfl, rfl, fun _ _ => rfl⟩⟩
    · obtain ⟨t, ht, -⟩ := State.frames_cons hr0
      show T.setVm s.vm = { ((T.setVm s.vm).setFrames (.invoking m args :: below)).setFrames (T.setVm s.vm).frames with heap := T.heap, slotsUsed := T.slotsUsed }
      rw [State.setFrames_setFrames, State.setFrames_self ht]
      rfl
    · show T.slotsUsed = T.slotsUsed + ((T.heap.toList.drop T.heap.size).map (·.slots.size)).sum
      rw [hnil]; rfl
    · show ((T.heap.toList.drop T.heap.size).map (·.slots.size)).sum ≤ 0
      rw [hnil]; exact Nat.le_refl _
/-- what 'sameButNew' without slots says of the heap -/
theorem tw_kept {u U : State} {k n : Nat} (h : u.sameButNew ({ U with vm := u.vm } : State) [] k n) : u.heap.size ≤ U.heap.size ∧ ∀ q : Nat, q < u.heap.size → U.heap[q]? = u.heap[q]? := by
  obtain ⟨-, h2, -, -, -, h6⟩ := h
  refine ⟨h2, fun q hq => ?_⟩
  obtain ⟨c9, e1, e2, -, e4⟩ := h6 q _ (Array.getElem?_eq_getElem hq)
  have hs : c9.slots = (u.heap[q]).slots := Array.ext_getElem? fun i => e4 i (fun hm => nomatch hm)
  rw [hs] at e2
  have e5 : U.heap[q]? = some c9 := e1
  rw [e5, Array.getElem?_eq_getElem hq, show c9 = u.heap[q] from e2]
/-- words of the tables stay where the tables are the same -/
theorem tw_word {args' : Array Value} {u U : State} {w : Cond} (hv : u.vm = U.vm) (hg : w ∈ gT ∨ w ∈ xbad) (h : w.before args u = true) : w.before args' U = true := by
  have hW : u.WarmedH U.vm := by rw [← hv]; exact State.WarmedH.refl u
  rcases hg with hg | hg
  · exact word_at hW (good_of_word (List.mem_filter.mp hg).2) h
  · exact va_tabs ((by decide +kernel : ∀ w ∈ xbad, w.onTables = true) w hg) hv h
/-- throw new E("text") -/
theorem tw_throw {cls text : String} {names : List String} {ik is ic sa len mc ms : Nat} {li : Instr} {XC : State → Addr → State → Prop} {A free : Nat → Prop} (F : fx_ p s m args meth c cc nL ret own Ts) (hl9 : l.stackTraces = false) (hcls : Bundle.fit cls = true) (hnames : ∀ n ∈ names, Bundle.fit n = true)
    (hk : Cond.classLink own ik cls ∈ gT) (hini : Cond.initialized cls ∈ gT) (hins : Cond.instantiable cls 6 ∈ gT) (hG : ∀ x ∈ gT, x.before args s = true) (hB : xb_ s) (hstr : vk_R own is text sa s) (hZ : xz_ A s) (hS : va_S A s.heap H locs)
    (how : ∀ (args : Array Value) (s : State), (∀ x ∈ gT, x.before args s = true) → xb_ s → (∀ x ∈ xst, (Cond.isRef (.static "java/lang/Throwable" x.1 x.2)).before args s = true ∧ (Cond.laysStatic "java/lang/Throwable" x.1 x.2).before args s = true) → ∀ w ∈ Bundle.ownAtoms own ic cls names, w.before args s = true)
    (hsize : ls.size = nL) (d0 : decode cc pc = .ok (.new ik, 3)) (d3 : decode cc (pc + 3) = .ok (.dup, 1)) (d4 : (li = .ldc is ∧ len = 2) ∨ (li = .ldc_w is ∧ len = 3)) (d4' : decode cc (pc + 4) = .ok (li, len)) (d6 : decode cc (pc + 4 + len) = .ok (.invokespecial ic, 3)) (d9 : decode cc (pc + 4 + len + 3) = .ok (.athrow, 1))
    (hT : ∀ x ∈ c.exceptionTable.toList, False) (hRf : names.length + 3 < R.frames) (hRl : (rest.map fun v => v.category).sum + (13 * (names.length + 1) + 43) ≤ R.locals) (hRc : cells + 1 ≤ R.cells) (hRs : slots + 6 ≤ R.slots)
    (hx : ∀ (q : Addr) (ce : Cell) (t : State), t.heap[q]? = some ce → ce.vm = .none → s.vm.findClass cls = some ce.cls → s.vm.Alike t.vm → H.size ≤ t.heap.size → (∀ q : Nat, q < H.size → t.heap[q]? = H[q]?) → XC s q t)
    (hf : ∀ z ∈ locs, free z.base) (hc : cells + 1 ≤ mc) (hs : slots + 6 ≤ ms) : W p l e R s m args below meth c H locs cells slots (TQ below XC s mc ms free) (F0 m pc ls rest) := by
  intro T hH X
  obtain ⟨hexec, hb, -, hml, hown, -, hlocks⟩ := F
  have htr : e.platform.stackTraces = false := (show e.platform.stackTraces = l.stackTraces by rw [X.admits.platform]).trans hl9
  have Y := tw_stand X hRc hRs
  obtain ⟨u, hu⟩ : ∃ z, z = (T.setVm s.vm).setFrames (.invoking m args :: below) := ⟨_, rfl⟩
  rw [← hu] at Y
  have hvm : s.vm = u.vm := by rw [hu]; rfl
  have hhp : u.heap = H := by rw [hu]; exact hH
  have hWu : s.WarmedH u.vm := by rw [← hvm]; exact State.WarmedH.refl s
  have hGu : ∀ x ∈ gT, x.before args u = true := fun x h => tw_word hvm (Or.inl h) (hG x h)
  have hBu : xb_ u := xb_warm hWu hB
  have hZu : xz_ A u := xz_go hZ hWu (by rw [hhp]; exact hS) (fun _ h => h)
  have hwords := how args u hGu hBu (fun x hx => ⟨xz_ref hZu x hx, xl_use (hZu.1 x hx).2⟩)
  have hownu : u.vm.findClass own = some m.cls := by rw [← hvm]; exact hown
  obtain ⟨vm₁, cX, kX, hfX, hkX, -, -, X₁, st1⟩ := Y.newCold hexec (own := own) (C := cls) (index := ik) (n := 6) hownu (hGu _ hk) (hGu _ hins) (hGu _ hini) (g := F0 m pc ls rest) rfl (by rw [hb]; exact d0) (Nat.le_refl _) (Nat.le_refl _)
  generalize hT1 : (T.setVm vm₁).pushCell { cls := cX, slots := kX.instanceTypes.map defaultValue, vm := .none } = T1 at X₁ st1
  have hcellA : T1.heap[T.heap.size]? = some (freshCell cX kX) := by rw [← hT1]; exact State.heap_pushCell_size _ _
  have hcat : (Value.ref T.heap.size).category = 1 := rfl
  obtain ⟨U, hsteps, hrun, hend, hWU, hsame, ce, hce, hO⟩ := X₁.ctorThrowS hexec htr (own := own) (cls := cls) (names := names) (ic := ic) hownu hcls hnames hwords (fun x hx => nomatch hx) hfX hkX hcellA (by rw [hhp, ← hH]; exact Nat.le_refl _) (msg := .ref sa) rfl
    (g := { method := m, pc := pc + 4 + len, locals := ls, stack := .ref sa :: .ref T.heap.size :: .ref T.heap.size :: rest, locked := none }) rfl (hsize.trans hml.symm) rfl rfl (rest := rest) rfl (by rw [hb]; exact d6) (by rw [hb]; exact d9) (fun x hx => (hT x hx).elim) hRf (by simp only [List.map_cons, List.sum_cons, hcat]; have hmr : JFrame.monitorRoom { method := m, pc := pc + 4 + len, locals := ls, stack := .ref sa :: .ref T.heap.size :: .ref T.heap.size :: rest, locked := none } = 0 := rfl; omega) hlocks
  obtain ⟨f1, f2⟩ := tw_kept hsame
  rw [hhp] at f1 f2
  have hWs : s.WarmedH U.vm := State.WarmedH.trans hWu hWU
  have hcl : s.vm.findClass cls = some ce.cls := by rw [hvm]; exact hO.cls
  have hall : s.sameButNew ({ U with vm := s.vm } : State) locs mc ms := by
    subst hu
    obtain ⟨e1, e2⟩ := hsame
    rw [State.setFrames_setFrames] at e1
    have h2 : (T.setVm s.vm).sameButNew ({ U with vm := s.vm } : State) [] (0 + 1) (0 + 6) := ⟨e1, e2⟩
    have h3 := X.same.trans h2
    rw [List.append_nil] at h3
    exact h3.mono hc hs
  refine ⟨U, ?_, T.heap.size, hrun, hend, hx _ ce U hce hO.vm hcl hWs.alike f1 f2, locs, ⟨⟨_, rfl⟩, hWs, hall⟩, hf⟩
  refine st1 _ ?_
  show Steps p.tables e below (T1.setTop { method := m, pc := pc + 3, locals := ls, stack := .ref T.heap.size :: rest, locked := none }) _
  have d3' : decode c.code (pc + 3) = .ok (.dup, 1) := by rw [hb]; exact d3
  jvm_step X₁.here [X₁.here.top, hexec, d3', Value.category]
  have hstu := vk_R.warm hWu hstr
  rcases d4 with ⟨rfl, rfl⟩ | ⟨rfl, rfl⟩
  · exact X₁.ldcString hexec (own := own) (text := text) (index := is) (a := sa) hownu hstu.1 hstu.2 (g := { method := m, pc := pc + 4, locals := ls, stack := .ref T.heap.size :: .ref T.heap.size :: rest, locked := none }) rfl (by rw [hb]; exact d4') _ hsteps
  · exact X₁.ldcStringW hexec (own := own) (text := text) (index := is) (a := sa) hownu hstu.1 hstu.2 (g := { method := m, pc := pc + 4, locals := ls, stack := .ref T.heap.size :: .ref T.heap.size :: rest, locked := none }) rfl (by rw [hb]; exact d4') _ hsteps
/-- a body's end by a throw is a contract -/
theorem tw_ofW {y : MethodName} {ws ws' : List Cond} {rm : Room} {Pc : Array Value → State → Prop} {XC : State → Addr → State → Prop} {mc ms : Nat} {free : Addr → Prop} {maxL : Nat}
    (hy : plainName y.cls = true) (hw : ws = Cond.code y cc maxL ret :: ws')
    (body : ∀ p e s m args below meth c s₁, BodyLoose p l y (headSpec ws rm) cc maxL ret e s m args below meth c s₁ → c.maxLocals = maxL → Pc args s →
      W p l e (headSpec ws rm).room s m args below meth c s.heap [] 0 0 (TQ below XC s mc ms free) (entryFrame m args maxL)) : tw_Met l y ws rm Pc XC mc ms free := by
  refine MetFree.of_bodyS (code := cc) (maxLocals := maxL) (ret := ret) hy ?_ ?_
  · intro args s m h hn
    obtain ⟨me, co, h1, h2, h3, h4, h5, h6, -, -⟩ := Cond.code_spec hn (atoms_spec (ws := ws) h _ (by rw [hw]; exact List.mem_cons_self))
    exact ⟨me, co, h1, h2, h3, h4, h5, h6⟩
  · intro p e s m args below meth c s₁ B hml hP _
    obtain ⟨t, a1, q, b1, b2, b3, b4⟩ := body p e s m args below meth c s₁ B hml hP s₁ (by rw [B.state]; rfl) (Stand.of_body B)
    exact ⟨t, .threw q, a1, b1, b2, q, rfl, b3, b4⟩
/-- a method whose code word has no table of handlers -/
theorem tw_noTable {y : MethodName} {ws ws' : List Cond} {rm : Room} {maxL : Nat} {s₁ : State} (hw : ws = Cond.code y cc maxL ret :: ws') (B : BodyLoose p l y (headSpec ws rm) cc maxL ret e s m args below meth c s₁) : ∀ x ∈ c.exceptionTable.toList, False := by
  obtain ⟨me, co, h1, h2, -, -, -, -, h7, -⟩ := Cond.code_spec B.named (atoms_spec (ws := ws) B.pre _ (by rw [hw]; exact List.mem_cons_self))
  cases Option.some.inj (h1.symm.trans B.method)
  cases Option.some.inj (h2.symm.trans (Stand.of_body B).code)
  intro x hx
  rw [Array.isEmpty_iff.mp h7] at hx
  cases hx
theorem W_mono {Q' : State → Prop} {g : JFrame} (h : W p l e R s m args below meth c H locs cells slots Q g) (hq : ∀ t, Q t → Q' t) : W p l e R s m args below meth c H locs cells slots Q' g := by
  intro T hT X
  obtain ⟨t, a, b⟩ := h T hT X
  exact ⟨t, a, hq t b⟩
end TW

