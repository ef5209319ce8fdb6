theorem q_1_212 : (.methodLink RX9 1 objectInit : Cond) ∈ gT := gT_mem (List.mem_append_right _ (List.mem_append_left _ (List.mem_of_getElem? (l := tables_1_1) (i := 212) rfl))) rfl
theorem q_1_38 : (.instanceMethod objectInit : Cond) ∈ gT := gT_mem (List.mem_append_right _ (List.mem_append_left _ (List.mem_of_getElem? (l := tables_1_1) (i := 38) rfl))) rfl
theorem q_1_39 : (.code objectInit ⟨#[0xb1]⟩ 1 none : Cond) ∈ gT := gT_mem (List.mem_append_right _ (List.mem_append_left _ (List.mem_of_getElem? (l := tables_1_1) (i := 39) (by decide +kernel)))) rfl
theorem q_1_51 : (.methodLink RX1 3 objectInit : Cond) ∈ gT := gT_mem (List.mem_append_right _ (List.mem_append_left _ (List.mem_of_getElem? (l := tables_1_1) (i := 51) rfl))) rfl
theorem q_1_52 : (.methodLink RX1 9 Lib.Math.max.name : Cond) ∈ gT := gT_mem (List.mem_append_right _ (List.mem_append_left _ (List.mem_of_getElem? (l := tables_1_1) (i := 52) (by decide +kernel)))) rfl
theorem q_1_57 : (.arrayClass .byte : Cond) ∈ gT := gT_mem (List.mem_append_right _ (List.mem_append_left _ (List.mem_of_getElem? (l := tables_1_1) (i := 57) rfl))) rfl
theorem q_1_63 : (.methodLink RX2 3 objectInit : Cond) ∈ gT := gT_mem (List.mem_append_right _ (List.mem_append_left _ (List.mem_of_getElem? (l := tables_1_1) (i := 63) rfl))) rfl
theorem q_1_82 : (.methodLink RX3 3 objectInit : Cond) ∈ gT := gT_mem (List.mem_append_right _ (List.mem_append_left _ (List.mem_of_getElem? (l := tables_1_1) (i := 82) rfl))) rfl
theorem q_1_107 : (.methodLink RX4 3 objectInit : Cond) ∈ gT := gT_mem (List.mem_append_right _ (List.mem_append_left _ (List.mem_of_getElem? (l := tables_1_1) (i := 107) rfl))) rfl
theorem q_1_123 : (.methodLink RX5 3 objectInit : Cond) ∈ gT := gT_mem (List.mem_append_right _ (List.mem_append_left _ (List.mem_of_getElem? (l := tables_1_1) (i := 123) rfl))) rfl
theorem q_1_137 : (.arrayClass .int : Cond) ∈ gT := gT_mem (List.mem_append_right _ (List.mem_append_left _ (List.mem_of_getElem? (l := tables_1_1) (i := 137) rfl))) rfl
theorem q_1_143 : (.methodLink RX6 3 objectInit : Cond) ∈ gT := gT_mem (List.mem_append_right _ (List.mem_append_left _ (List.mem_of_getElem? (l := tables_1_1) (i := 143) rfl))) rfl
theorem q_1_211 : (.code yX9_init cX9_init 1 none : Cond) ∈ gT := gT_mem (List.mem_append_right _ (List.mem_append_left _ (List.mem_of_getElem? (l := tables_1_1) (i := 211) rfl))) rfl
theorem q_1_10 : (.initialized RX9 : Cond) ∈ gT := gT_mem (List.mem_append_right _ (List.mem_append_left _ (List.mem_of_getElem? (l := tables_1_1) (i := 10) rfl))) rfl
theorem q_1_210 : (.instanceMethod yX9_init : Cond) ∈ gT := gT_mem (List.mem_append_right _ (List.mem_append_left _ (List.mem_of_getElem? (l := tables_1_1) (i := 210) rfl))) rfl
theorem q_1_162 : (.methodLink RX7 3 objectInit : Cond) ∈ gT := gT_mem (List.mem_append_right _ (List.mem_append_left _ (List.mem_of_getElem? (l := tables_1_1) (i := 162) rfl))) rfl
theorem q_1_163 : (.classLink RX7 9 RX1 : Cond) ∈ gT := gT_mem (List.mem_append_right _ (List.mem_append_left _ (List.mem_of_getElem? (l := tables_1_1) (i := 163) rfl))) rfl
theorem q_1_47 : (.instantiable RX1 1 : Cond) ∈ gT := gT_mem (List.mem_append_right _ (List.mem_append_left _ (List.mem_of_getElem? (l := tables_1_1) (i := 47) rfl))) rfl
theorem q_1_50 : (.code yX1_init cX1_init 2 none : Cond) ∈ gT := gT_mem (List.mem_append_right _ (List.mem_append_left _ (List.mem_of_getElem? (l := tables_1_1) (i := 50) rfl))) rfl
theorem q_1_164 : (.methodLink RX7 11 yX1_init : Cond) ∈ gT := gT_mem (List.mem_append_right _ (List.mem_append_left _ (List.mem_of_getElem? (l := tables_1_1) (i := 164) rfl))) rfl
theorem q_1_49 : (.instanceMethod yX1_init : Cond) ∈ gT := gT_mem (List.mem_append_right _ (List.mem_append_left _ (List.mem_of_getElem? (l := tables_1_1) (i := 49) rfl))) rfl
theorem q_1_165 : (.methodLink RX7 53 yX2_blocks : Cond) ∈ gT := gT_mem (List.mem_append_right _ (List.mem_append_left _ (List.mem_of_getElem? (l := tables_1_1) (i := 165) rfl))) rfl
theorem q_1_37 : (.methodLink RX0 3 objectInit : Cond) ∈ gT := gT_mem (List.mem_append_right _ (List.mem_append_left _ (List.mem_of_getElem? (l := tables_1_1) (i := 37) rfl))) rfl
theorem q_1_40 : (.methodLink RX0 9 Lib.Math.min.name : Cond) ∈ gT := gT_mem (List.mem_append_right _ (List.mem_append_left _ (List.mem_of_getElem? (l := tables_1_1) (i := 40) (by decide +kernel)))) rfl
theorem q_1_43 : (.methodLink RX0 15 Lib.Math.max.name : Cond) ∈ gT := gT_mem (List.mem_append_right _ (List.mem_append_left _ (List.mem_of_getElem? (l := tables_1_1) (i := 43) (by decide +kernel)))) rfl
theorem q_1_46 : (.classLink RX0 18 RX1 : Cond) ∈ gT := gT_mem (List.mem_append_right _ (List.mem_append_left _ (List.mem_of_getElem? (l := tables_1_1) (i := 46) rfl))) rfl
theorem q_1_48 : (.methodLink RX0 20 yX1_init : Cond) ∈ gT := gT_mem (List.mem_append_right _ (List.mem_append_left _ (List.mem_of_getElem? (l := tables_1_1) (i := 48) rfl))) rfl
theorem q_1_58 : (.classLink RX0 27 RX2 : Cond) ∈ gT := gT_mem (List.mem_append_right _ (List.mem_append_left _ (List.mem_of_getElem? (l := tables_1_1) (i := 58) rfl))) rfl
theorem q_1_59 : (.instantiable RX2 4 : Cond) ∈ gT := gT_mem (List.mem_append_right _ (List.mem_append_left _ (List.mem_of_getElem? (l := tables_1_1) (i := 59) rfl))) rfl
theorem q_1_62 : (.code yX2_init cX2_init 2 none : Cond) ∈ gT := gT_mem (List.mem_append_right _ (List.mem_append_left _ (List.mem_of_getElem? (l := tables_1_1) (i := 62) rfl))) rfl
theorem q_1_60 : (.methodLink RX0 29 yX2_init : Cond) ∈ gT := gT_mem (List.mem_append_right _ (List.mem_append_left _ (List.mem_of_getElem? (l := tables_1_1) (i := 60) rfl))) rfl
theorem q_1_61 : (.instanceMethod yX2_init : Cond) ∈ gT := gT_mem (List.mem_append_right _ (List.mem_append_left _ (List.mem_of_getElem? (l := tables_1_1) (i := 61) rfl))) rfl
theorem q_1_77 : (.classLink RX0 34 RX3 : Cond) ∈ gT := gT_mem (List.mem_append_right _ (List.mem_append_left _ (List.mem_of_getElem? (l := tables_1_1) (i := 77) rfl))) rfl
theorem q_1_78 : (.instantiable RX3 6 : Cond) ∈ gT := gT_mem (List.mem_append_right _ (List.mem_append_left _ (List.mem_of_getElem? (l := tables_1_1) (i := 78) rfl))) rfl
theorem q_1_81 : (.code yX3_init cX3_init 4 none : Cond) ∈ gT := gT_mem (List.mem_append_right _ (List.mem_append_left _ (List.mem_of_getElem? (l := tables_1_1) (i := 81) rfl))) rfl
theorem q_1_79 : (.methodLink RX0 36 yX3_init : Cond) ∈ gT := gT_mem (List.mem_append_right _ (List.mem_append_left _ (List.mem_of_getElem? (l := tables_1_1) (i := 79) rfl))) rfl
theorem q_1_80 : (.instanceMethod yX3_init : Cond) ∈ gT := gT_mem (List.mem_append_right _ (List.mem_append_left _ (List.mem_of_getElem? (l := tables_1_1) (i := 80) rfl))) rfl
theorem q_1_102 : (.classLink RX0 46 RX4 : Cond) ∈ gT := gT_mem (List.mem_append_right _ (List.mem_append_left _ (List.mem_of_getElem? (l := tables_1_1) (i := 102) rfl))) rfl
theorem q_1_103 : (.instantiable RX4 3 : Cond) ∈ gT := gT_mem (List.mem_append_right _ (List.mem_append_left _ (List.mem_of_getElem? (l := tables_1_1) (i := 103) rfl))) rfl
theorem q_1_106 : (.code yX4_init cX4_init 4 none : Cond) ∈ gT := gT_mem (List.mem_append_right _ (List.mem_append_left _ (List.mem_of_getElem? (l := tables_1_1) (i := 106) rfl))) rfl
theorem q_1_104 : (.methodLink RX0 48 yX4_init : Cond) ∈ gT := gT_mem (List.mem_append_right _ (List.mem_append_left _ (List.mem_of_getElem? (l := tables_1_1) (i := 104) rfl))) rfl
theorem q_1_105 : (.instanceMethod yX4_init : Cond) ∈ gT := gT_mem (List.mem_append_right _ (List.mem_append_left _ (List.mem_of_getElem? (l := tables_1_1) (i := 105) rfl))) rfl
theorem q_1_118 : (.classLink RX0 55 RX5 : Cond) ∈ gT := gT_mem (List.mem_append_right _ (List.mem_append_left _ (List.mem_of_getElem? (l := tables_1_1) (i := 118) rfl))) rfl
theorem q_1_119 : (.instantiable RX5 4 : Cond) ∈ gT := gT_mem (List.mem_append_right _ (List.mem_append_left _ (List.mem_of_getElem? (l := tables_1_1) (i := 119) rfl))) rfl
theorem q_1_122 : (.code yX5_init cX5_init 3 none : Cond) ∈ gT := gT_mem (List.mem_append_right _ (List.mem_append_left _ (List.mem_of_getElem? (l := tables_1_1) (i := 122) rfl))) rfl
theorem q_1_120 : (.methodLink RX0 57 yX5_init : Cond) ∈ gT := gT_mem (List.mem_append_right _ (List.mem_append_left _ (List.mem_of_getElem? (l := tables_1_1) (i := 120) rfl))) rfl
theorem q_1_121 : (.instanceMethod yX5_init : Cond) ∈ gT := gT_mem (List.mem_append_right _ (List.mem_append_left _ (List.mem_of_getElem? (l := tables_1_1) (i := 121) rfl))) rfl
theorem q_1_138 : (.classLink RX0 64 RX6 : Cond) ∈ gT := gT_mem (List.mem_append_right _ (List.mem_append_left _ (List.mem_of_getElem? (l := tables_1_1) (i := 138) rfl))) rfl
theorem q_1_139 : (.instantiable RX6 4 : Cond) ∈ gT := gT_mem (List.mem_append_right _ (List.mem_append_left _ (List.mem_of_getElem? (l := tables_1_1) (i := 139) rfl))) rfl
theorem q_1_142 : (.code yX6_init cX6_init 5 none : Cond) ∈ gT := gT_mem (List.mem_append_right _ (List.mem_append_left _ (List.mem_of_getElem? (l := tables_1_1) (i := 142) rfl))) rfl
theorem q_1_140 : (.methodLink RX0 66 yX6_init : Cond) ∈ gT := gT_mem (List.mem_append_right _ (List.mem_append_left _ (List.mem_of_getElem? (l := tables_1_1) (i := 140) rfl))) rfl
theorem q_1_141 : (.instanceMethod yX6_init : Cond) ∈ gT := gT_mem (List.mem_append_right _ (List.mem_append_left _ (List.mem_of_getElem? (l := tables_1_1) (i := 141) rfl))) rfl
theorem q_1_157 : (.classLink RX0 73 RX7 : Cond) ∈ gT := gT_mem (List.mem_append_right _ (List.mem_append_left _ (List.mem_of_getElem? (l := tables_1_1) (i := 157) rfl))) rfl
theorem q_1_158 : (.instantiable RX7 11 : Cond) ∈ gT := gT_mem (List.mem_append_right _ (List.mem_append_left _ (List.mem_of_getElem? (l := tables_1_1) (i := 158) rfl))) rfl
theorem q_1_161 : (.code yX7_init cX7_init 8 none : Cond) ∈ gT := gT_mem (List.mem_append_right _ (List.mem_append_left _ (List.mem_of_getElem? (l := tables_1_1) (i := 161) rfl))) rfl
theorem q_1_159 : (.methodLink RX0 75 yX7_init : Cond) ∈ gT := gT_mem (List.mem_append_right _ (List.mem_append_left _ (List.mem_of_getElem? (l := tables_1_1) (i := 159) rfl))) rfl
theorem q_1_160 : (.instanceMethod yX7_init : Cond) ∈ gT := gT_mem (List.mem_append_right _ (List.mem_append_left _ (List.mem_of_getElem? (l := tables_1_1) (i := 160) rfl))) rfl
theorem q_1_204 : (.classLink RX0 82 RX8 : Cond) ∈ gT := gT_mem (List.mem_append_right _ (List.mem_append_left _ (List.mem_of_getElem? (l := tables_1_1) (i := 204) rfl))) rfl
theorem q_1_205 : (.instantiable RX8 3 : Cond) ∈ gT := gT_mem (List.mem_append_right _ (List.mem_append_left _ (List.mem_of_getElem? (l := tables_1_1) (i := 205) rfl))) rfl
theorem q_1_208 : (.code yX8_init cX8_init 1 none : Cond) ∈ gT := gT_mem (List.mem_append_right _ (List.mem_append_left _ (List.mem_of_getElem? (l := tables_1_1) (i := 208) rfl))) rfl
theorem q_1_207 : (.instanceMethod yX8_init : Cond) ∈ gT := gT_mem (List.mem_append_right _ (List.mem_append_left _ (List.mem_of_getElem? (l := tables_1_1) (i := 207) rfl))) rfl
theorem q_6_110 : (.methodLink RX12 1 objectInit : Cond) ∈ gT := gT_mem (List.mem_append_right _ (List.mem_append_right _ (List.mem_append_right _ (List.mem_append_right _ (List.mem_append_right _ (List.mem_append_right _ (List.mem_append_left _ (List.mem_of_getElem? (l := tables_1_6) (i := 110) rfl)))))))) rfl
theorem q_6_111 : (.constant RX12 7 (524288 : Int32) : Cond) ∈ gT := gT_mem (List.mem_append_right _ (List.mem_append_right _ (List.mem_append_right _ (List.mem_append_right _ (List.mem_append_right _ (List.mem_append_right _ (List.mem_append_left _ (List.mem_of_getElem? (l := tables_1_6) (i := 111) rfl)))))))) rfl
theorem q_6_212 : (.arrayClass .boolean : Cond) ∈ gT := gT_mem (List.mem_append_right _ (List.mem_append_right _ (List.mem_append_right _ (List.mem_append_right _ (List.mem_append_right _ (List.mem_append_right _ (List.mem_append_left _ (List.mem_of_getElem? (l := tables_1_6) (i := 212) rfl)))))))) rfl
theorem q_6_213 : (.arrayClass .long : Cond) ∈ gT := gT_mem (List.mem_append_right _ (List.mem_append_right _ (List.mem_append_right _ (List.mem_append_right _ (List.mem_append_right _ (List.mem_append_right _ (List.mem_append_left _ (List.mem_of_getElem? (l := tables_1_6) (i := 213) rfl)))))))) rfl
-- MY KIT, third part: objects are made
section GC
variable {p : Program} {l : Launch} {e : Env} {R : Room} {s : State} {m : MethodId} {args : Array Value} {below : List Frame} {meth : Method} {c : Code} {H : Heap} {locs : List Loc} {cells slots : Nat} {Q : State → Prop}
variable {D : va_G} {cl : List vw_C} {tys : List (ClassId × FieldType)} {A : Nat → Prop} {ws : va_W}
variable {cc : ByteArray} {nL pc : Nat} {ret : Option FieldType} {own : String} {Ts : List Cond} {ls : Array Slot} {rest st0 : List Value}
/-- the heap holds the cells ws -/
def gc_ (D : va_G) (cl : List vw_C) (tys : List (ClassId × FieldType)) (A : Nat → Prop) (s : State) (ws : va_W) (H : Heap) (locs : List Loc) : Prop :=
  (va_K D cl tys s ∧ xb_ s) ∧ va_P D cl ws H ∧ va_D A ws ∧ va_S A s.heap H locs ∧ ∀ q, s.heap.size ≤ q → A q
theorem gc_re {ws' : va_W} {tys' : List (ClassId × FieldType)} (hW : gc_ D cl tys A s ws H locs) (is ts : List Nat) (hs : is.map (fun i => ws[i]?) = ws'.map some) (hn : va_nd is = true) (ht : ts.filterMap (fun i => tys[i]?) = tys') : gc_ D cl tys' A s ws' H locs := by
  obtain ⟨hK, hP, hD, hS, hA⟩ := hW
  refine ⟨⟨hK.1.sub ts ht, hK.2⟩, hP.sub is ?_, hD.sub is hn hs, hS, hA⟩
  have h2 : (is.map (fun i => ws[i]?)).filterMap id = (ws'.map some).filterMap id := by rw [hs]
  rw [List.filterMap_map, List.filterMap_map] at h2
  have h3 : ws'.filterMap (id ∘ some) = ws' := by
    induction ws' with
    | nil => rfl
    | cons a t _ => simp [List.filterMap_some]
  rw [h3] at h2
  exact h2
theorem gc_rot {x : Nat × va_E} (hK : va_K D cl tys s ∧ xb_ s) (hP : va_P D cl (ws ++ [x]) H) (hD : va_D A (ws ++ [x])) (hS : va_S A s.heap H locs) (hA : ∀ q, s.heap.size ≤ q → A q) : gc_ D cl tys A s (x :: ws) H locs := by
  have hg : ∀ (k : Nat) (q : Nat × va_E), (x :: ws)[k]? = some q → (ws ++ [x])[if k = 0 then ws.length else k - 1]? = some q := by
    intro k q hk
    cases k with
    | zero => simpa using hk
    | succ k =>
      have h1 : ws[k]? = some q := by simpa using hk
      have h2 : k < ws.length := (List.getElem?_eq_some_iff.mp h1).1
      simp [List.getElem?_append_left h2, h1]
  refine ⟨hK, hP.by _ hg, hD.by _ hg ?_, hS, hA⟩
  intro i j hi hj hij
  simp only [List.length_cons] at hi hj
  split at hij <;> split at hij <;> omega
theorem gc_rotK {x : ClassId × FieldType} (hK : va_K D cl (tys ++ [x]) s) : va_K D cl (x :: tys) s := by
  refine ⟨hK.1, fun k q hk => ?_⟩
  cases k with
  | zero => exact hK.2 tys.length q (by simpa using hk)
  | succ k =>
    have h1 : tys[k]? = some q := by simpa using hk
    have h2 : k < tys.length := (List.getElem?_eq_some_iff.mp h1).1
    exact hK.2 k q (by simp [List.getElem?_append_left h2, h1])
theorem gc_mid {x : Nat × va_E} {pre E : va_W} (h : gc_ D cl tys A s (x :: (pre ++ E)) H locs) : gc_ D cl tys A s (pre ++ x :: E) H locs := by
  obtain ⟨hK, hP, hD, hS, hA⟩ := h
  have hg : ∀ (k : Nat) (q : Nat × va_E), (pre ++ x :: E)[k]? = some q → (x :: (pre ++ E))[if k < pre.length then k + 1 else if k = pre.length then 0 else k]? = some q := by
    intro k q hk
    rcases Nat.lt_trichotomy k pre.length with h | h | h
    · rw [if_pos h, List.getElem?_cons_succ, List.getElem?_append_left h]
      rw [List.getElem?_append_left h] at hk
      exact hk
    · subst h
      rw [if_neg (Nat.lt_irrefl _), if_pos rfl]
      rw [List.getElem?_append_right (Nat.le_refl _), Nat.sub_self] at hk
      exact hk
    · rw [if_neg (by omega), if_neg (by omega)]
      obtain ⟨j, rfl⟩ : ∃ j, k = pre.length + 1 + j := ⟨k - (pre.length + 1), by omega⟩
      rw [List.getElem?_append_right (by omega), show pre.length + 1 + j - pre.length = j + 1 by omega, List.getElem?_cons_succ] at hk
      rw [show pre.length + 1 + j = (pre.length + j) + 1 by omega, List.getElem?_cons_succ, List.getElem?_append_right (by omega), show pre.length + j - pre.length = j by omega]
      exact hk
  refine ⟨hK, hP.by _ hg, hD.by _ hg ?_, hS, hA⟩
  intro i j hi hj hij
  split at hij <;> split at hij <;> (try split at hij) <;> (try split at hij) <;> omega
theorem gc_drop {x : Nat × va_E} {pre E : va_W} (h : gc_ D cl tys A s (pre ++ x :: E) H locs) : gc_ D cl tys A s (pre ++ E) H locs := by
  obtain ⟨hK, hP, hD, hS, hA⟩ := h
  have hg : ∀ (k : Nat) (q : Nat × va_E), (pre ++ E)[k]? = some q → (pre ++ x :: E)[if k < pre.length then k else k + 1]? = some q := by
    intro k q hk
    rcases Nat.lt_or_ge k pre.length with h | h
    · rw [if_pos h, List.getElem?_append_left h]
      rw [List.getElem?_append_left h] at hk
      exact hk
    · rw [if_neg (by omega), List.getElem?_append_right (by omega), show k + 1 - pre.length = (k - pre.length) + 1 by omega, List.getElem?_cons_succ]
      rw [List.getElem?_append_right h] at hk
      exact hk
  refine ⟨hK, hP.by _ hg, hD.by _ hg ?_, hS, hA⟩
  intro i j hi hj hij
  split at hij <;> split at hij <;> omega
theorem gc_new {C : String} {T : u_T} {N ci index : Nat} {fs : List Value} {mc' ms' : Nat} (F : fx_ p s m args meth c cc nL ret own Ts) (hW : gc_ D cl tys A s ws H locs) (hin : ∀ x ∈ u_ws C T N, x ∈ Ts) (ty : Nat → FieldType) (hty : ∀ k, k < N → parseFieldDescriptor (T k).2.2.1 = some (ty k)) (hcl : (Cond.classLink own index C).before args s = true) (hinst : (Cond.instantiable C N).before args s = true) (hini : (Cond.initialized C).before args s = true) (hc : cl[ci]? = some (C, T, N)) (hfs : ∀ j, j < N → defaultValue (ty j) = vp_V fs j) (hcells : cells + 1 ≤ R.cells) (hslots : slots + N ≤ R.slots) (hdg : decode cc pc = .ok (.new index, 3)) (hmc : cells + 1 = mc') (hms : slots + N = ms')
    (kk : ∀ (q : Nat) (H1 : Heap), gc_ D cl tys A s ((q, .inr (ci, fs)) :: ws) H1 locs → W p l e R s m args below meth c H1 locs mc' ms' Q (F0 m (pc + 3) ls (.ref q :: rest))) : W p l e R s m args below meth c H locs cells slots Q (F0 m pc ls rest) := by
  subst hmc; subst hms
  exact va_new F.1 F.2.1 F.2.2.2.2.2.1 hin ty hty F.2.2.2.2.1 hcl hinst hini hW.1.1 hW.2.1 hW.2.2.1 hW.2.2.2.1 hW.2.2.2.2 hc hfs hcells hslots hdg (fun q H1 hP hD hS => kk q H1 (gc_rot hW.1 hP hD hS hW.2.2.2.2))
theorem gc_newi {x : Int32} {N : Nat} {mc' ms' : Nat} (F : fx_ p s m args meth c cc nL ret own Ts) (hW : gc_ D cl tys A s ws H locs) (harr : (Cond.arrayClass .int).before args s = true) (hn : ¬ x < 0) (hN : x.toNatClampNeg = N) (hbytes : N * 4 ≤ 536870912) (hcells : cells + 1 ≤ R.cells) (hslots : slots + N ≤ R.slots) (hdg : decode cc pc = .ok (.newarray .int, 2)) (hmc : cells + 1 = mc') (hms : slots + N = ms')
    (kk : ∀ (q : Nat) (cA : ClassId) (H1 : Heap), gc_ D cl ((cA, .int) :: tys) A s ((q, .inl (cA, N, .inl (fun _ => 0))) :: ws) H1 locs → W p l e R s m args below meth c H1 locs mc' ms' Q (F0 m (pc + 2) ls (.ref q :: rest))) : W p l e R s m args below meth c H locs cells slots Q (F0 m pc ls (.int x :: rest)) := by
  subst hmc; subst hms
  exact va_newa F.1 F.2.1 (atype := .int) harr rfl hW.1.1 hW.2.1 hW.2.2.1 hW.2.2.2.1 hW.2.2.2.2 (a0 := (N, .inl (fun _ => 0))) (fun cA => rfl) hn hN hbytes hcells hslots hdg (fun q cA H1 hK hP hD hS => kk q cA H1 (gc_rot ⟨gc_rotK hK, hW.1.2⟩ hP hD hS hW.2.2.2.2))
theorem gc_newb {x : Int32} {N : Nat} {mc' ms' : Nat} (F : fx_ p s m args meth c cc nL ret own Ts) (hW : gc_ D cl tys A s ws H locs) (harr : (Cond.arrayClass .byte).before args s = true) (hn : ¬ x < 0) (hN : x.toNatClampNeg = N) (hbytes : N * 1 ≤ 536870912) (hcells : cells + 1 ≤ R.cells) (hslots : slots + N ≤ R.slots) (hdg : decode cc pc = .ok (.newarray .byte, 2)) (hmc : cells + 1 = mc') (hms : slots + N = ms')
    (kk : ∀ (q : Nat) (cA : ClassId) (H1 : Heap), gc_ D cl ((cA, .byte) :: tys) A s ((q, .inl (cA, N, .inl (fun _ => 0))) :: ws) H1 locs → W p l e R s m args below meth c H1 locs mc' ms' Q (F0 m (pc + 2) ls (.ref q :: rest))) : W p l e R s m args below meth c H locs cells slots Q (F0 m pc ls (.int x :: rest)) := by
  subst hmc; subst hms
  exact va_newa F.1 F.2.1 (atype := .byte) harr rfl hW.1.1 hW.2.1 hW.2.2.1 hW.2.2.2.1 hW.2.2.2.2 (a0 := (N, .inl (fun _ => 0))) (fun cA => rfl) hn hN hbytes hcells hslots hdg (fun q cA H1 hK hP hD hS => kk q cA H1 (gc_rot ⟨gc_rotK hK, hW.1.2⟩ hP hD hS hW.2.2.2.2))
theorem gc_newz {x : Int32} {N : Nat} {mc' ms' : Nat} (F : fx_ p s m args meth c cc nL ret own Ts) (hW : gc_ D cl tys A s ws H locs) (harr : (Cond.arrayClass .boolean).before args s = true) (hn : ¬ x < 0) (hN : x.toNatClampNeg = N) (hbytes : N * 1 ≤ 536870912) (hcells : cells + 1 ≤ R.cells) (hslots : slots + N ≤ R.slots) (hdg : decode cc pc = .ok (.newarray .boolean, 2)) (hmc : cells + 1 = mc') (hms : slots + N = ms')
    (kk : ∀ (q : Nat) (cA : ClassId) (H1 : Heap), gc_ D cl ((cA, .boolean) :: tys) A s ((q, .inl (cA, N, .inl (fun _ => 0))) :: ws) H1 locs → W p l e R s m args below meth c H1 locs mc' ms' Q (F0 m (pc + 2) ls (.ref q :: rest))) : W p l e R s m args below meth c H locs cells slots Q (F0 m pc ls (.int x :: rest)) := by
  subst hmc; subst hms
  exact va_newa F.1 F.2.1 (atype := .boolean) harr rfl hW.1.1 hW.2.1 hW.2.2.1 hW.2.2.2.1 hW.2.2.2.2 (a0 := (N, .inl (fun _ => 0))) (fun cA => rfl) hn hN hbytes hcells hslots hdg (fun q cA H1 hK hP hD hS => kk q cA H1 (gc_rot ⟨gc_rotK hK, hW.1.2⟩ hP hD hS hW.2.2.2.2))
theorem gc_newl {x : Int32} {N : Nat} {mc' ms' : Nat} (F : fx_ p s m args meth c cc nL ret own Ts) (hW : gc_ D cl tys A s ws H locs) (harr : (Cond.arrayClass .long).before args s = true) (hn : ¬ x < 0) (hN : x.toNatClampNeg = N) (hbytes : N * 8 ≤ 536870912) (hcells : cells + 1 ≤ R.cells) (hslots : slots + N ≤ R.slots) (hdg : decode cc pc = .ok (.newarray .long, 2)) (hmc : cells + 1 = mc') (hms : slots + N = ms')
    (kk : ∀ (q : Nat) (cA : ClassId) (H1 : Heap), gc_ D cl ((cA, .long) :: tys) A s ((q, .inl (cA, N, .inr (.inl (fun _ => 0)))) :: ws) H1 locs → W p l e R s m args below meth c H1 locs mc' ms' Q (F0 m (pc + 2) ls (.ref q :: rest))) : W p l e R s m args below meth c H locs cells slots Q (F0 m pc ls (.int x :: rest)) := by
  subst hmc; subst hms
  exact va_newa F.1 F.2.1 (atype := .long) harr rfl hW.1.1 hW.2.1 hW.2.2.1 hW.2.2.2.1 hW.2.2.2.2 (a0 := (N, .inr (.inl (fun _ => 0)))) (fun cA => rfl) hn hN hbytes hcells hslots hdg (fun q cA H1 hK hP hD hS => kk q cA H1 (gc_rot ⟨gc_rotK hK, hW.1.2⟩ hP hD hS hW.2.2.2.2))
theorem gc_putF {C ref : String} {T : u_T} {N ci index b : Nat} {ws' : va_W} (F : fx_ p s m args meth c cc nL ret own Ts) (hin2 : meth.name = "<init>") (hin : ∀ x ∈ u_ws C T N, x ∈ Ts) (ty0 : Nat → FieldType) (hty : ∀ k, k < N → parseFieldDescriptor (T k).2.2.1 = some (ty0 k)) (hnm : ∀ a, a < N → ∀ b, b < N → a ≠ b → (T a).2.1 ≠ (T b).2.1) (hW : gc_ D cl tys A s ws H locs) (q0 k : Nat) {fs : List Value} {v : Value} (he : ws[q0]? = some (b, .inr (ci, fs))) (hc : cl[ci]? = some (C, T, N)) (hk : k < N) (hlink : (Cond.fieldLink own index ref (T k).2.1 (T k).2.2.1).before args s = true) (hsame : ∀ x, s.fieldFound? (T k).1 (T k).2.1 (T k).2.2.1 = some x → s.fieldFound? ref (T k).2.1 (T k).2.2.1 = some x) (hfin : (T k).2.2.2 = true) (hdecl : (T k).1 = own) {ty : FieldType} (hd : parseFieldDescriptor (T k).2.2.1 = some ty) (hn : narrow ty v = v) (hfit : fits ty v = true) (hl : k < fs.length) (hdg : decode cc pc = .ok (.putfield index, 3)) (hset : ws.set q0 (b, .inr (ci, fs.set k v)) = ws')
    (kk : ∀ (H1 : Heap) (locs1 : List Loc), gc_ D cl tys A s ws' H1 locs1 → W p l e R s m args below meth c H1 locs1 cells slots Q (F0 m (pc + 3) ls rest)) : W p l e R s m args below meth c H locs cells slots Q (F0 m pc ls (v :: .ref b :: rest)) := by
  refine va_putF F.1 F.2.1 F.2.2.2.2.2.1 hin ty0 hty hnm F.2.2.2.2.1 hW.1.1 hW.2.1 hW.2.2.1 hW.2.2.2.1 q0 he hc k hk hlink hsame hfin hin2 hdecl hd hn hfit hl hdg (fun H1 locs1 hP hD hS => ?_)
  rw [hset] at hP hD
  exact kk H1 locs1 ⟨hW.1, hP, hD, hS, hW.2.2.2.2⟩
theorem gc_put {C ref : String} {T : u_T} {N ci index b : Nat} {ws' : va_W} (F : fx_ p s m args meth c cc nL ret own Ts) (hin : ∀ x ∈ u_ws C T N, x ∈ Ts) (ty0 : Nat → FieldType) (hty : ∀ k, k < N → parseFieldDescriptor (T k).2.2.1 = some (ty0 k)) (hnm : ∀ a, a < N → ∀ b, b < N → a ≠ b → (T a).2.1 ≠ (T b).2.1) (hW : gc_ D cl tys A s ws H locs) (q0 k : Nat) {fs : List Value} {v : Value} (he : ws[q0]? = some (b, .inr (ci, fs))) (hc : cl[ci]? = some (C, T, N)) (hk : k < N) (hlink : (Cond.fieldLink own index ref (T k).2.1 (T k).2.2.1).before args s = true) (hsame : ∀ x, s.fieldFound? (T k).1 (T k).2.1 (T k).2.2.1 = some x → s.fieldFound? ref (T k).2.1 (T k).2.2.1 = some x) (hfin : (T k).2.2.2 = false) {ty : FieldType} (hd : parseFieldDescriptor (T k).2.2.1 = some ty) (hn : narrow ty v = v) (hfit : fits ty v = true) (hl : k < fs.length) (hdg : decode cc pc = .ok (.putfield index, 3)) (hset : ws.set q0 (b, .inr (ci, fs.set k v)) = ws')
    (kk : ∀ (H1 : Heap) (locs1 : List Loc), gc_ D cl tys A s ws' H1 locs1 → W p l e R s m args below meth c H1 locs1 cells slots Q (F0 m (pc + 3) ls rest)) : W p l e R s m args below meth c H locs cells slots Q (F0 m pc ls (v :: .ref b :: rest)) := by
  refine va_put F.1 F.2.1 F.2.2.2.2.2.1 hin ty0 hty hnm F.2.2.2.2.1 hW.1.1 hW.2.1 hW.2.2.1 hW.2.2.2.1 q0 he hc k hk hlink hsame hfin hd hn hfit hl hdg (fun H1 locs1 hP hD hS => ?_)
  rw [hset] at hP hD
  exact kk H1 locs1 ⟨hW.1, hP, hD, hS, hW.2.2.2.2⟩
/-- a constructor's contract: from the cells ws to the cells ws' u, whatever u is -/
def gc_M {T : Type} (l : Launch) (D : va_G) (cl : List vw_C) (tys : List (ClassId × FieldType)) (y : MethodName) (yws : List Cond) (rm : Room) (av : List Value) (ws : va_W) (tys' : T → List (ClassId × FieldType)) (ws' : T → va_W) : Prop :=
  ∀ sz : Nat, Met l y yws rm (va_Pc av (gw_P D cl tys (fun _ : Unit => ws) sz ())) (va_Qv (fun _ : T => True) (fun u t => va_P D cl (ws' u) t.heap ∧ va_K D cl (tys' u) t ∧ va_D (va_A ws sz) (ws' u)) (va_A ws sz)) rm.cells rm.slots (va_A ws sz)
variable {y : MethodName} {bytes : ByteArray} {maxL n index : Nat} {yws : List Cond} {rm : Room} {b : Nat} {As : List Value} {C : String}
theorem gc_run {T : Type} {tys' : T → List (ClassId × FieldType)} {ws' : T → va_W} {a : Array Value} (hW : gc_ D cl tys A s ws H locs) (hr : va_Run p l e R s m args below meth c H locs cells slots rm.cells rm.slots (F0 m pc ls st0) rest (va_Qv (fun _ : T => True) (fun u t => va_P D cl (ws' u) t.heap ∧ va_K D cl (tys' u) t ∧ va_D (va_A ws H.size) (ws' u)) (va_A ws H.size) a) (va_A ws H.size))
    (kk : ∀ (u : T) (H1 : Heap) (locs1 : List Loc), gc_ D cl (tys' u) A s (ws' u) H1 locs1 → W p l e R s m args below meth c H1 locs1 (cells + rm.cells) (slots + rm.slots) Q (F0 m (pc + 3) ls rest)) : W p l e R s m args below meth c H locs cells slots Q (F0 m pc ls st0) := by
  obtain ⟨hK, hP, hD, hS, hA⟩ := hW
  have hFc : ∀ q, va_A ws H.size q → A q := gw_free (w := fun _ : Unit => ws) (σ := ()) hD (sz := H.size) (fun q h => hA q (Nat.le_trans hS.1 h))
  refine va_callv hr hS (fun q _ h => hFc q h) hFc (fun u t H1 locs ht hvm hw hB hz1 hk1 hS => ?_)
  obtain ⟨hP1, hK1, hD1⟩ := hB
  rw [ht] at hP1
  exact kk u H1 locs ⟨⟨va_K.moved hvm.symm hK1, hK.2⟩, hP1, hD1.weaken (fun _ _ _ h => hFc _ h), hS, hA⟩
theorem gc_I {T : Type} {tys' : T → List (ClassId × FieldType)} {ws' : T → va_W} (F : fx_ p s m args meth c cc nL ret own Ts) (hW : gc_ D cl tys A s ws H locs) (hM : gc_M l D cl tys y yws rm (.ref b :: As) ws tys' ws') (cw : CallB R s args own index y bytes maxL none yws rm rm.cells rm.slots n ∧ y.name = "<init>" ∧ (Cond.instanceMethod y).before args s = true) (hn : As.length = n) (hsize : ls.size = nL) (hst : st0 = As.reverse ++ .ref b :: rest) (hroom : (rest.map fun v => v.category).sum ≤ 8) (hdg : decode cc pc = .ok (.invokespecial index, 3)) (hf : cells + rm.cells ≤ R.cells ∧ slots + rm.slots ≤ R.slots) {mc' ms' : Nat} (hmc : cells + rm.cells = mc') (hms : slots + rm.slots = ms')
    (kk : ∀ (u : T) (H1 : Heap) (locs1 : List Loc), gc_ D cl (tys' u) A s (ws' u) H1 locs1 → W p l e R s m args below meth c H1 locs1 mc' ms' Q (F0 m (pc + 3) ls rest)) : W p l e R s m args below meth c H locs cells slots Q (F0 m pc ls st0) := by
  subst hmc; subst hms
  exact gc_run hW (va_runI (gw_fix F) (hM H.size) cw ⟨gw_blind, gw_pre (w := fun _ : Unit => ws) (σ := ()) hW⟩ rfl hn hsize hst (lv_room hroom) hdg hf) kk
theorem gc_IN {host : String} {T : Type} {tys' : T → List (ClassId × FieldType)} {ws' : T → va_W} (F : fx_ p s m args meth c cc nL ret own Ts) (hW : gc_ D cl tys A s ws H locs) (hM : gc_M l D cl tys y yws rm (.ref b :: As) ws tys' ws') (cw : va_CN R s args own index y host bytes maxL none yws rm rm.cells rm.slots n ∧ y.name = "<init>" ∧ (Cond.instanceMethod y).before args s = true) (hn : As.length = n) (hsize : ls.size = nL) (hst : st0 = As.reverse ++ .ref b :: rest) (hroom : (rest.map fun v => v.category).sum ≤ 8) (hdg : decode cc pc = .ok (.invokespecial index, 3)) (hf : cells + rm.cells ≤ R.cells ∧ slots + rm.slots ≤ R.slots) {mc' ms' : Nat} (hmc : cells + rm.cells = mc') (hms : slots + rm.slots = ms')
    (kk : ∀ (u : T) (H1 : Heap) (locs1 : List Loc), gc_ D cl (tys' u) A s (ws' u) H1 locs1 → W p l e R s m args below meth c H1 locs1 mc' ms' Q (F0 m (pc + 3) ls rest)) : W p l e R s m args below meth c H locs cells slots Q (F0 m pc ls st0) := by
  subst hmc; subst hms
  exact gc_run hW (va_runIN (gw_fix F) (hM H.size) cw ⟨gw_blind, gw_pre (w := fun _ : Unit => ws) (σ := ()) hW⟩ rfl hn hsize hst (lv_room hroom) hdg hf) kk
theorem gc_ret {T : Type} {tys' : T → List (ClassId × FieldType)} {ws' : T → va_W} (u : T) (F : fx_ p s m args meth c cc nL none own Ts) (hW : gc_ D cl (tys' u) A s (ws' u) H locs) (hdg : decode cc pc = .ok (.return_, 1)) : W p l e R s m args below meth c H locs cells slots (MQ below (va_Qv (fun _ : T => True) (fun u t => va_P D cl (ws' u) t.heap ∧ va_K D cl (tys' u) t ∧ va_D A (ws' u)) A) args s cells slots A) (F0 m pc ls []) := by
  obtain ⟨hK, hP, hD, hS, hA⟩ := hW
  exact W.vret F.1 F.2.1 F.2.2.1 (fun t ht hW => ⟨⟨u, rfl, trivial, by rw [ht]; exact hP, va_K.moved hW.alike hK.1, hD⟩, hS.F ht⟩) hS.2.2 hdg F.2.2.2.2.2.2
theorem gc_body {T : Type} {tys' : T → List (ClassId × FieldType)} {ws' : T → va_W} {av : List Value} {wsx : List Cond} (hy : plainName y.cls = true) (hw : yws = Cond.code y cc maxL none :: wsx)
    (body : ∀ p e s m below meth c A, fx_ p s m av.toArray meth c cc maxL none y.cls yws → meth.name = y.name → gc_ D cl tys A s ws s.heap [] →
      ∀ ls : Array Slot, lv_has ls maxL (lv_args 0 av) → W p l e rm s m av.toArray below meth c s.heap [] 0 0 (MQ below (va_Qv (fun _ : T => True) (fun u t => va_P D cl (ws' u) t.heap ∧ va_K D cl (tys' u) t ∧ va_D A (ws' u)) A) av.toArray s rm.cells rm.slots A) (F0 m 0 ls [])) (hlen : (lg_sl av).length ≤ maxL) : gc_M l D cl tys y yws rm av ws tys' ws' := by
  intro sz
  refine Met.ofW (cc := cc) (maxL := maxL) (ret := none) hy hw ?_
  intro p e s m args below meth c s₁ B hml hv
  have hsz : s.heap.size = sz := gw_size hv
  subst hsz
  obtain ⟨rfl, hW⟩ := gw_start hv
  have hl := lv_entry av (n := maxL) hlen
  rw [lg_entry_eq]
  exact body p e s m below meth c (va_A ws s.heap.size) ⟨B.exec, B.bytes, B.returns, hml, findClass_of_methodNamed B.named, atoms_spec (ws := yws) B.pre, B.notSynchronized⟩ (name_of_methodNamed B.named B.method).1 hW _ hl
end GC

def nbOf (x : Int32) : Nat := (if (128 : Int32) < (if x < 512 then x else 512) then (if x < 512 then x else 512) else 128).toNatClampNeg
theorem nbOf_in (x : Int32) : 128 ≤ nbOf x ∧ nbOf x ≤ 512 ∧ (if (128 : Int32) < (if x < 512 then x else 512) then (if x < 512 then x else 512) else 128) = nI (nbOf x) := by
  have key : ∀ y : Int32, ¬ y < 128 → y ≤ 512 → 128 ≤ y.toNatClampNeg ∧ y.toNatClampNeg ≤ 512 ∧ y = nI y.toNatClampNeg := by
    intro y h1 h2
    obtain ⟨j, hj, rfl⟩ := nI_of2 (x := y) (M := 512) (n := 512) (by decide) (fun h => h1 (Int32.lt_trans h (by decide))) h2
    have hc : (nI j).toNatClampNeg = j := nI_clamp (by omega)
    rw [hc]
    refine ⟨?_, hj, rfl⟩
    rcases Nat.lt_or_ge j 128 with h | h
    · exact absurd (nI_lt h (by decide)) h1
    · exact h
  have hm : (if x < 512 then x else 512) ≤ (512 : Int32) := by
    split
    · rename_i h; exact Int32.le_of_lt h
    · exact Int32.le_refl _
  unfold nbOf
  generalize (if x < 512 then x else (512 : Int32)) = z at hm ⊢
  refine key _ ?_ ?_
  · split
    · rename_i h; exact Int32.not_lt.mpr (Int32.le_of_lt h)
    · decide
  · split
    · exact hm
    · decide
theorem nbOf_a {x : Int32} (h : ¬ (128 : Int32) ≤ x) : (128 : Int32) = nI (nbOf x) := by
  have h1 : x < 128 := Int32.not_le.mp h
  have h2 : x < 512 := Int32.lt_trans h1 (by decide)
  have := (nbOf_in x).2.2
  rw [if_pos h2, if_neg (Int32.not_lt.mpr (Int32.le_of_lt h1))] at this
  exact this
theorem nbOf_b {x : Int32} (h1 : (128 : Int32) ≤ x) (h : ¬ x ≤ 512) : (512 : Int32) = nI (nbOf x) := by
  have h2 : ¬ x < 512 := fun z => h (Int32.le_of_lt z)
  have := (nbOf_in x).2.2
  rw [if_neg h2, if_pos (by decide)] at this
  exact this
theorem nbOf_c {x : Int32} (h1 : (128 : Int32) ≤ x) (h : x ≤ 512) : x = nI (nbOf x) := by
  have := (nbOf_in x).2.2
  rcases Decidable.em (x < 512) with h2 | h2
  · rw [if_pos h2] at this
    rcases Decidable.em ((128 : Int32) < x) with h3 | h3
    · rw [if_pos h3] at this; exact this
    · rw [if_neg h3] at this
      rw [← this]; exact Int32.le_antisymm (Int32.not_lt.mp h3) h1
  · rw [if_neg h2, if_pos (by decide)] at this
    rw [← this]; exact Int32.le_antisymm h (Int32.not_lt.mp h2)
theorem mx_1 {n : Nat} (h1 : 1 ≤ n) (h2 : n ≤ 512) : (if (1 : Int32) < nI n then nI n else 1) = nI n := by
  rcases Nat.lt_or_ge 1 n with h | h
  · exact if_pos (show (1 : Int32) < nI n from nI_lt (a := 1) h (by omega))
  · have : n = 1 := by omega
    subst this; rfl
theorem ml_0 {n : Nat} (h2 : n ≤ 512) : ¬ nI n * (1024 : Int32) < 0 := by
  rw [show nI n * (1024 : Int32) = nI (n * 1024) from pk_mul n 1024]; exact nI_pos (by omega)
theorem ml_1 {n : Nat} (h2 : n ≤ 512) : (nI n * (1024 : Int32)).toNatClampNeg = n * 1024 := by
  rw [show nI n * (1024 : Int32) = nI (n * 1024) from pk_mul n 1024]; exact nI_clamp (by omega)

theorem kX2_blocks {l : Launch} {D : va_G} {tys : List (ClassId × FieldType)} {ws : va_W} {h q0 : Nat} {b : Int32} {v2 v3 v4 : Value} (he : ws[q0]? = some (h, .inr (2, [.int b, v2, v3, v4]))) : gw_Mi l D vwCl tys (fun _ : Unit => ws) yX2_blocks wsX2_blocks { frames := 0, cells := 0, slots := 0, locals := 0 } [.ref h] () (b, ()) := by
  intro sz
  refine gw_body (cc := cX2_blocks) (maxL := 1) (yret := some .int) (by decide +kernel) rfl ?_ (Nat.le_of_ble_eq_true rfl)
  intro p e s m below meth c F hsz hW ls hl
  have hx := F.1
  have hb := F.2.1
  have hG : ∀ x ∈ gT, x.before _ s = true := fun x h => F.2.2.2.2.2.1 x (List.mem_cons_of_mem _ h)
  refine lv_aload_n hx hb dX2_blocks_0 rfl (lv_at hl 0 rfl) ?_
  refine gw_get (v := .int b) F inc_X2 hW q0 2 0 he rfl (by decide) (hG _ q_1_64) (fun _ h9 => h9) rfl dX2_blocks_1 ?_
  exact gw_reti F hW rfl dX2_blocks_4

theorem pat_in {K : KX} {σ : XS} {q : Nat} {sd : Int32} {A : Nat → Prop} {s : State} {H : Heap} {locs : List Loc} (h : gc_ (kD K) vwCl (tyX K) A s ((q, .inr (9, [.int sd])) :: wX K σ) H locs) : gw_ (kD (KP K q sd)) vwCl (tyX (KP K q sd)) (wX (KP K q sd)) A s σ H locs := gc_mid (E := kE K) h
theorem pat_out {K : KX} {σ : XS} {q : Nat} {sd : Int32} {A : Nat → Prop} {s : State} {H : Heap} {locs : List Loc} (h : gw_ (kD (KP K q sd)) vwCl (tyX (KP K q sd)) (wX (KP K q sd)) A s σ H locs) : gw_ (kD K) vwCl (tyX K) (wX K) A s σ H locs := gc_drop (x := (q, .inr (9, [.int sd]))) (E := kE K) h

