/-! THE CLAIM OUT OF ONE WALK OF THE LAW'S BODY. Your part is whole_start (and what it stands on); all else here is the same for every law, but numbers. -/
def R_law : String := "InodeDeskLaw"
def lw_P (b : Addr) (xs : List Int32) (args : Array Value) (s : State) : Prop := args = #[.ref b] ∧ s.IntsAt b xs ∧ xs.length ≤ 3073 ∧ (Jvm.Cond.and given_1 narrow_1).before args s = true
def lw_Q (_ : Array Value) (s : State) (o : Outcome) (t : State) : Prop := o = .returned (some (.int 1)) ∧ Framed s o t [] 601024 7293000
def lw_Z (below : List Frame) (a : Array Value) (s : State) : State → Prop := fun t => ∃ o, t.status = .running ∧ Ended t below o ∧ lw_Q a s o t
/-- the law's own end, with 1 on the stack, nothing written that was there before, its room as the claim has it -/
theorem lw_ret {p : Program} {l : Launch} {e : Env} {s : State} {m : MethodId} {below : List Frame} {meth : Method} {c : Code} {b : Nat} (hx : p.tables.exec = Jvm.exec) (hb : c.code = code) (hr : meth.sig.returnType = ret) (hlocks : meth.locks = false) {pc : Nat} {H : Heap} {ls : Array Slot} (hdg : decode code pc = .ok (.ireturn, 1)) : W p l e room_1 s m #[Value.ref b] below meth c H [] 601024 7293000 (lw_Z below #[Value.ref b] s) (F0 m pc ls [.int 1]) := by
  intro T hT X
  obtain ⟨fs, hret, hrun, hended, hW, hframe⟩ := X.leave (v := some (.int 1)) (hlocks := hlocks) (fun h => by rw [hr] at h; cases h)
  have hmeth' : T.vm.method? m = some meth := X.method'
  refine ⟨T.setFrames fs, ?_, .returned (some (.int 1)), hrun, hended, rfl, ⟨_, rfl⟩, hW, hframe⟩
  jvm_step X.here [X.here.top, hx, hb, hdg, hmeth', hr, ret, narrow_b1]
  (try refine ⟨rfl, ?_⟩); (try refine ⟨rfl, ?_⟩)
  first | (intro acts; rw [hret _ acts rfl rfl rfl]) | rw [hret _ _ rfl rfl rfl]
  exact Steps.refl _
/-- what holds at the law's entry: the machine, the code, the tables' words (any of lw_tbl by 'hts w (by decide +kernel)'), the script of L ints xs at the cell b, what the Statement gives of the start (any of its parts by flat_of_before) -/
def lw_At (p : Program) (s : State) (m : MethodId) (meth : Method) (c : Code) (b L : Nat) (xs : Nat → Int32) : Prop :=
  p.tables.exec = Jvm.exec ∧ c.code = code ∧ meth.sig.returnType = ret ∧ c.maxLocals = 8 ∧ s.vm.findClass R_law = some m.cls ∧ (∀ w ∈ lw_tbl, w.before #[Value.ref b] s = true) ∧ va_X b L xs s s.heap ∧ b < s.heap.size ∧ meth.locks = false ∧ (Jvm.Cond.and given_1 narrow_1).before #[Value.ref b] s = true

theorem law_eq {v : Nat → Int64} {k : Nat} {x y : Int64} (h : k = 0) (e : x = y) : lg_cmp ((if k = 0 then vp_updL v 0 x else v) (0 : Int32).toNatClampNeg) y = 0 := by
  rw [if_pos h, show (0 : Int32).toNatClampNeg = 0 from by decide]
  subst e
  show lg_cmp (if 0 = 0 then x else v 0) x = 0
  rw [if_pos rfl]
  unfold lg_cmp
  rw [if_neg (fun h => Int64.lt_irrefl h), if_pos rfl]
def St_feed (nb : Nat) (Inv : XS → XS → Prop) : Prop := ∀ (σ τ : XS) (a0 : Int32) (a1 : Int32) (a2 : Int32) (a3 : Int32) (a4 : Int32), Inv σ τ → ∃ (o1 : XS) (o2 : XS), fXX0_feed_0 nb a0 a1 a2 a3 a4 σ = some o1 ∧ fMX12_feed_0 nb a0 a1 a2 a3 a4 τ = some o2 ∧ Inv o1 o2
def St_end (nb : Nat) (Inv : XS → XS → Prop) : Prop := ∀ (σ τ : XS) (a0 : Int32), Inv σ τ → ∃ (o1 : (Int32 × XS)) (o2 : (Int32 × XS)), fXX0_end_0 nb a0 σ = some o1 ∧ fMX12_end_0 nb a0 τ = some o2 ∧ o1.1 = o2.1 ∧ Inv o1.2 o2.2
def St_format (nb : Nat) (Inv : XS → XS → Prop) : Prop := ∀ (σ τ : XS) (a0 : Int32) (a1 : Int32) (a2 : Int32), Inv σ τ → ∃ (o1 : (Nat × Int32 × XS)) (o2 : (Int32 × XS)), fXX0_format_0 nb a0 a1 a2 σ = some o1 ∧ fMX12_format_0 nb a0 a1 a2 τ = some o2 ∧ Inv o1.2.2 o2.2 ∧ ((o1.1 = 0 ∧ o2.2.1 0 = 0 ∧ o1.2.1 = o2.1) ∨ (o1.1 = 3 ∧ o2.2.1 0 = 1))
def St_byteAt (nb : Nat) (Inv : XS → XS → Prop) : Prop := ∀ (σ τ : XS) (a0 : Int32), Inv σ τ → ∃ (o1 : (Int32 × XS)) (o2 : (Int32 × XS)), fXX0_byteAt_0 nb a0 σ = some o1 ∧ fMX12_byteAt_0 nb a0 τ = some o2 ∧ o1.1 = o2.1 ∧ Inv o1.2 o2.2
def St_fault (nb : Nat) (Inv : XS → XS → Prop) : Prop := ∀ (σ τ : XS), Inv σ τ → ∃ (o1 : (Int32 × XS)) (o2 : (Int32 × XS)), fXX0_fault_0 nb σ = some o1 ∧ fMX12_fault_0 nb τ = some o2 ∧ o1.1 = o2.1 ∧ Inv o1.2 o2.2
def St_many (nb : Nat) (Inv : XS → XS → Prop) : Prop := ∀ (σ τ : XS) (a0 : Int32), Inv σ τ → ∃ (o1 : (Int32 × XS)) (o2 : (Int32 × XS)), fXX0_many_0 nb a0 σ = some o1 ∧ fMX12_many_0 nb a0 τ = some o2 ∧ o1.1 = o2.1 ∧ Inv o1.2 o2.2
def St_items (nb : Nat) (Inv : XS → XS → Prop) : Prop := ∀ (σ τ : XS), Inv σ τ → ∃ (o1 : (Nat × Int32 × XS)) (o2 : (Int32 × XS)), fXX0_items_0 nb σ = some o1 ∧ fMX12_items_0 nb τ = some o2 ∧ Inv o1.2.2 o2.2 ∧ ((o1.1 = 0 ∧ o2.2.1 0 = 0 ∧ o1.2.1 = o2.1) ∨ (o1.1 = 1 ∧ o2.2.1 0 = 1))
def St_letter (nb : Nat) (Inv : XS → XS → Prop) : Prop := ∀ (σ τ : XS) (a0 : Int32) (a1 : Int32), Inv σ τ → ∃ (o1 : (Nat × Int32 × XS)) (o2 : (Int32 × XS)), fXX0_letter_0 nb a0 a1 σ = some o1 ∧ fMX12_letter_0 nb a0 a1 τ = some o2 ∧ Inv o1.2.2 o2.2 ∧ ((o1.1 = 0 ∧ o2.2.1 0 = 0 ∧ o1.2.1 = o2.1) ∨ (o1.1 = 1 ∧ o2.2.1 0 = 1) ∨ (o1.1 = 2 ∧ o2.2.1 0 = 2))
def St_about (nb : Nat) (Inv : XS → XS → Prop) : Prop := ∀ (σ τ : XS) (a0 : Int32) (a1 : Int32), Inv σ τ → ∃ (o1 : (Nat × Int64 × XS)) (o2 : (Int64 × XS)), fXX0_about_0 nb a0 a1 σ = some o1 ∧ fMX12_about_0 nb a0 a1 τ = some o2 ∧ Inv o1.2.2 o2.2 ∧ ((o1.1 = 0 ∧ o2.2.1 0 = 0 ∧ o1.2.1 = o2.1) ∨ (o1.1 = 1 ∧ o2.2.1 0 = 1) ∨ (o1.1 = 2 ∧ o2.2.1 0 = 2) ∨ (o1.1 = 3 ∧ o2.2.1 0 = 3))
def St_content (nb : Nat) (Inv : XS → XS → Prop) : Prop := ∀ (σ τ : XS) (a0 : Int32) (a1 : Int32), Inv σ τ → ∃ (o1 : (Nat × Int32 × XS)) (o2 : (Int32 × XS)), fXX0_content_0 nb a0 a1 σ = some o1 ∧ fMX12_content_0 nb a0 a1 τ = some o2 ∧ Inv o1.2.2 o2.2 ∧ ((o1.1 = 0 ∧ o2.2.1 0 = 0 ∧ o1.2.1 = o2.1) ∨ (o1.1 = 1 ∧ o2.2.1 0 = 1) ∨ (o1.1 = 2 ∧ o2.2.1 0 = 2))
def St_enter (nb : Nat) (Inv : XS → XS → Prop) : Prop := ∀ (σ τ : XS) (a0 : Int32), Inv σ τ → ∃ (o1 : (Nat × Int32 × XS)) (o2 : (Int32 × XS)), fXX0_enter_0 nb a0 σ = some o1 ∧ fMX12_enter_0 nb a0 τ = some o2 ∧ Inv o1.2.2 o2.2 ∧ ((o1.1 = 0 ∧ o2.2.1 0 = 0 ∧ o1.2.1 = o2.1) ∨ (o1.1 = 1 ∧ o2.2.1 0 = 1) ∨ (o1.1 = 2 ∧ o2.2.1 0 = 2) ∨ (o1.1 = 3 ∧ o2.2.1 0 = 3))
def St_up (nb : Nat) (Inv : XS → XS → Prop) : Prop := ∀ (σ τ : XS), Inv σ τ → ∃ (o1 : (Nat × Int32 × XS)) (o2 : (Int32 × XS)), fXX0_up_0 nb σ = some o1 ∧ fMX12_up_0 nb τ = some o2 ∧ Inv o1.2.2 o2.2 ∧ ((o1.1 = 0 ∧ o2.2.1 0 = 0 ∧ o1.2.1 = o2.1 ∧ (o2.1 = 0 ∨ o2.1 = 1)) ∨ (o1.1 = 1 ∧ o2.2.1 0 = 1))
def St_make (nb : Nat) (Inv : XS → XS → Prop) : Prop := ∀ (σ τ : XS) (a0 : Int32), (a0 = 0 ∨ a0 = 1) → Inv σ τ → ∃ (o1 : (Nat × Int32 × XS)) (o2 : (Int32 × XS)), fXX0_make_0 nb a0 σ = some o1 ∧ fMX12_make_0 nb a0 τ = some o2 ∧ Inv o1.2.2 o2.2 ∧ ((o1.1 = 0 ∧ o2.2.1 0 = 0 ∧ o1.2.1 = o2.1) ∨ (o1.1 = 1 ∧ o2.2.1 0 = 1) ∨ (o1.1 = 3 ∧ o2.2.1 0 = 2) ∨ (o1.1 = 4 ∧ o2.2.1 0 = 3))
def St_write (nb : Nat) (Inv : XS → XS → Prop) : Prop := ∀ (σ τ : XS) (a0 : Int32), Inv σ τ → ∃ (o1 : (Nat × Int32 × XS)) (o2 : (Int32 × XS)), fXX0_write_0 nb a0 σ = some o1 ∧ fMX12_write_0 nb a0 τ = some o2 ∧ Inv o1.2.2 o2.2 ∧ ((o1.1 = 0 ∧ o2.2.1 0 = 0 ∧ o1.2.1 = o2.1) ∨ (o1.1 = 1 ∧ o2.2.1 0 = 1) ∨ (o1.1 = 2 ∧ o2.2.1 0 = 2) ∨ (o1.1 = 3 ∧ o2.2.1 0 = 3) ∨ (o1.1 = 4 ∧ o2.2.1 0 = 4))
def St_grow (nb : Nat) (Inv : XS → XS → Prop) : Prop := ∀ (σ τ : XS) (a0 : Int32) (a1 : Int32) (a2 : Int32), Inv σ τ → ∃ (o1 : (Nat × Int32 × XS)) (o2 : (Int32 × XS)), fXX0_grow_0 nb a0 a1 a2 σ = some o1 ∧ fMX12_grow_0 nb a0 a1 a2 τ = some o2 ∧ Inv o1.2.2 o2.2 ∧ ((o1.1 = 0 ∧ o2.2.1 0 = 0 ∧ o1.2.1 = o2.1) ∨ (o1.1 = 1 ∧ o2.2.1 0 = 1) ∨ (o1.1 = 2 ∧ o2.2.1 0 = 2) ∨ (o1.1 = 3 ∧ o2.2.1 0 = 3) ∨ (o1.1 = 4 ∧ o2.2.1 0 = 4))
def St_cut (nb : Nat) (Inv : XS → XS → Prop) : Prop := ∀ (σ τ : XS) (a0 : Int32) (a1 : Int32), Inv σ τ → ∃ (o1 : (Nat × Int32 × XS)) (o2 : (Int32 × XS)), fXX0_cut_0 nb a0 a1 σ = some o1 ∧ fMX12_cut_0 nb a0 a1 τ = some o2 ∧ Inv o1.2.2 o2.2 ∧ ((o1.1 = 0 ∧ o2.2.1 0 = 0 ∧ o1.2.1 = o2.1) ∨ (o1.1 = 1 ∧ o2.2.1 0 = 1) ∨ (o1.1 = 2 ∧ o2.2.1 0 = 2) ∨ (o1.1 = 3 ∧ o2.2.1 0 = 3))
def St_remove (nb : Nat) (Inv : XS → XS → Prop) : Prop := ∀ (σ τ : XS) (a0 : Int32), Inv σ τ → ∃ (o1 : (Nat × XS)) (o2 : XS), fXX0_remove_0 nb a0 σ = some o1 ∧ fMX12_remove_0 nb a0 τ = some o2 ∧ Inv o1.2 o2 ∧ ((o1.1 = 0 ∧ o2.1 0 = 0) ∨ (o1.1 = 1 ∧ o2.1 0 = 1) ∨ (o1.1 = 2 ∧ o2.1 0 = 2) ∨ (o1.1 = 3 ∧ o2.1 0 = 3))
def St_stamp (nb : Nat) (Inv : XS → XS → Prop) : Prop := ∀ (σ τ : XS) (a0 : Int32) (a1 : Int32) (a2 : Int64), Inv σ τ → ∃ (o1 : (Nat × XS)) (o2 : XS), fXX0_stamp_0 nb a0 a1 a2 σ = some o1 ∧ fMX12_stamp_0 nb a0 a1 a2 τ = some o2 ∧ Inv o1.2 o2 ∧ ((o1.1 = 0 ∧ o2.1 0 = 0) ∨ (o1.1 = 1 ∧ o2.1 0 = 1) ∨ (o1.1 = 2 ∧ o2.1 0 = 2) ∨ (o1.1 = 3 ∧ o2.1 0 = 3))
def St_all (nb : Nat) (Inv : XS → XS → Prop) : Prop := St_feed nb Inv ∧ St_end nb Inv ∧ St_format nb Inv ∧ St_byteAt nb Inv ∧ St_fault nb Inv ∧ St_many nb Inv ∧ St_items nb Inv ∧ St_letter nb Inv ∧ St_about nb Inv ∧ St_content nb Inv ∧ St_enter nb Inv ∧ St_up nb Inv ∧ St_make nb Inv ∧ St_write nb Inv ∧ St_grow nb Inv ∧ St_cut nb Inv ∧ St_remove nb Inv ∧ St_stamp nb Inv
